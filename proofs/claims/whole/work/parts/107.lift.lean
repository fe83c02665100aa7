def gX9_cover_L30 (x1 : Int32) (M : zM) (rc30 : (Int32 × Int32) → Option (Int32 × zM)) (s : (Int32 × Int32)) : Option (Int32 × zM) :=
  (if x1 ≤ s.2 then some (s.1, M)
  else zg (zok s.2 6) (zlet ((s.1 + (M.1 4 (s.2 : Int32).toNatClampNeg))) (fun x5_ => rc30 (x5_, (s.2 + 1)))))
set_option maxRecDepth 100000 in
set_option maxHeartbeats 2000000 in
theorem aX9_cover_L30 {G : zG} {X : zX} {x1 : Int32} (hX : zC G X cX9_cover 5 RX9 (some .int) 6)   {M : zM} {res : (Int32 × zM)}  : ∀ (N : Nat) (s : (Int32 × Int32)), zfix N (gX9_cover_L30 x1 M) s = some res → Z G X (zQi res) 30 [some (.ref 0), some (.int x1), none, some (.int s.1), some (.int s.2)] [] M := by
  intro N
  induction N with
  | zero => intro s h; cases h
  | succ N hrc30 =>
    intro s h
    replace h : gX9_cover_L30 x1 M (zfix N (gX9_cover_L30 x1 M)) s = some res := h
    unfold gX9_cover_L30 at h
    refine z_iload hX dX9_cover_30 rfl 32 rfl ?_
    refine z_iload_n hX dX9_cover_32 rfl 33 rfl ?_
    refine z_icmp_ge hX dX9_cover_33 52 36 (by decide) rfl (fun hc => ?_) (fun hc => ?_)
    · rw [if_pos hc] at h
      refine z_iload_n hX dX9_cover_52 rfl 53 rfl ?_
      exact z_ireturn hX dX9_cover_53 (zend_i h)
    · rw [if_neg hc] at h
      refine z_iload_n hX dX9_cover_36 rfl 37 rfl ?_
      refine z_aload_n hX dX9_cover_37 rfl 38 rfl ?_
      refine z_getF hX fX9_79 dX9_cover_38 zs_0 (by decide) rfl 41 rfl ?_
      refine z_iload hX dX9_cover_41 rfl 43 rfl ?_
      obtain ⟨hb, h4_⟩ := zgd h
      refine z_iald hX dX9_cover_43 zs_4 (zok_in hb) 44 rfl ?_
      refine z_iadd hX dX9_cover_44 45 rfl ?_
      refine z_topi h4_ (fun x5_ h6_ => ?_)
      refine z_istore_n hX dX9_cover_45 (by decide) 46 rfl ?_
      refine z_iinc (v := (s.2 + 1)) hX dX9_cover_46 rfl (by rfl) (by decide) 49 rfl ?_
      refine z_goto hX dX9_cover_49 30 (by decide) ?_
      refine z_mask [true, true, false, true, true] ?_
      have hz := hrc30 _ h6_
      exact hz
def gX9_cover (x1 : Int32) (M : zM) : Option (Int32 × zM) :=
  (if x1 < 0 then some ((-1), M)
  else (if x1 ≤ 6 then zcIM (gX9_sortPremiums M) (fun v1_ M2_ => (if x1 ≤ v1_ then zfix zFu (gX9_cover_L30 x1 M2_) (0, 0)
  else some ((-2), M2_)))
  else some ((-1), M)))
set_option maxRecDepth 100000 in
set_option maxHeartbeats 2000000 in
theorem mX9_cover {G : zG} {x1 : Int32} {M : zM}  {res : (Int32 × zM)} (h : gX9_cover x1 M = some res) : Ct G 6 tX9_cover [.ref 0, .int x1] M (zQi res) := by
  unfold gX9_cover at h
  refine Ct.of (y := yX9_cover) rfl plX9 (Nat.le_of_ble_eq_true rfl) (fun X hX => ?_)
  replace hX : zC G X cX9_cover 5 RX9 (some .int) 6 := hX
  show Z G X _ 0 [some (.ref 0), some (.int x1), none, none, none] [] M
  refine z_iload_n hX dX9_cover_0 rfl 1 rfl ?_
  refine z_if_lt hX dX9_cover_1 10 4 (by decide) rfl (fun hc => ?_) (fun hc => ?_)
  · rw [if_pos hc] at h
    refine z_iconst hX dX9_cover_10 qi_m1 11 rfl ?_
    exact z_ireturn hX dX9_cover_11 (zend_i h)
  · rw [if_neg hc] at h
    refine z_iload_n hX dX9_cover_4 rfl 5 rfl ?_
    refine z_bipush hX dX9_cover_5 qb_6 7 rfl ?_
    refine z_icmp_le hX dX9_cover_7 12 10 (by decide) rfl (fun hc => ?_) (fun hc => ?_)
    · rw [if_pos hc] at h
      refine z_aload_n hX dX9_cover_12 rfl 13 rfl ?_
      obtain ⟨v1_, M2_, hq, h3_⟩ := zcIM_of h
      refine z_callV hX vX9_sortPremiums lX9_298 dX9_cover_13 zs_0 rfl (mX9_sortPremiums  hq) (by decide) rfl rfl (Nat.le_of_ble_eq_true rfl) 16 rfl (Qi.to (fun v' M' hv => ?_))
      cases hv
      refine z_istore_n hX dX9_cover_16 (by decide) 17 rfl ?_
      refine z_iload_n hX dX9_cover_17 rfl 18 rfl ?_
      refine z_iload_n hX dX9_cover_18 rfl 19 rfl ?_
      refine z_icmp_le hX dX9_cover_19 25 22 (by decide) rfl (fun hc => ?_) (fun hc => ?_)
      · rw [if_pos hc] at h3_
        refine z_iconst hX dX9_cover_25 qi_0 26 rfl ?_
        refine z_istore_n hX dX9_cover_26 (by decide) 27 rfl ?_
        refine z_iconst hX dX9_cover_27 qi_0 28 rfl ?_
        refine z_istore hX dX9_cover_28 (by decide) 30 rfl ?_
        refine z_mask [true, true, false, true, true] ?_
        have hz := aX9_cover_L30 hX _ _ h3_
        exact hz
      · rw [if_neg hc] at h3_
        refine z_bipush hX dX9_cover_22 qb_m2 24 rfl ?_
        exact z_ireturn hX dX9_cover_24 (zend_i h3_)
    · rw [if_neg hc] at h
      refine z_iconst hX dX9_cover_10 qi_m1 11 rfl ?_
      exact z_ireturn hX dX9_cover_11 (zend_i h)
def gX2_mayHave (v0 : Nat) (x1 : Int32) (x2 : Int32) (x3 : Int32) (M : zM) : Option Int32 :=
  (if (((x3 : Int32) >>> ((x2 : Int32) &&& 31)) &&& 1) = 0 then zg (zok x1 6) ((if (M.1 (v0 + 4) (x1 : Int32).toNatClampNeg) = 2 then some 0
  else zg (zok x2 8) ((if (M.1 (v0 + 8) (x2 : Int32).toNatClampNeg) = 0 then zgP (M.2.2 v0 0) (fun p3_ => zg (zok x2 8) (zgP (M.2.2 v0 0) (fun p6_ => zg (zok x1 6) ((if (M.1 (p6_ + 4) (x1 : Int32).toNatClampNeg) < (M.1 (p3_ + 7) (x2 : Int32).toNatClampNeg) then some 0
  else some 1)))))
  else some 0))))
  else some 0)
set_option maxRecDepth 100000 in
set_option maxHeartbeats 2000000 in
theorem mX2_mayHave {G : zG} {v0 : Nat} {x1 : Int32} {x2 : Int32} {x3 : Int32} {M : zM} (hv0 : isW v0) {res : Int32} (h : gX2_mayHave v0 x1 x2 x3 M = some res) : Ct G 1 tX2_mayHave [.ref v0, .int x1, .int x2, .int x3] M (zQip M res) := by
  unfold gX2_mayHave at h
  refine Ct.of (y := yX2_mayHave) rfl plX2 (Nat.le_of_ble_eq_true rfl) (fun X hX => ?_)
  replace hX : zC G X cX2_mayHave 4 RX2 (some .boolean) 1 := hX
  show Z G X _ 0 [some (.ref v0), some (.int x1), some (.int x2), some (.int x3)] [] M
  refine z_iload_n hX dX2_mayHave_0 rfl 1 rfl ?_
  refine z_iload_n hX dX2_mayHave_1 rfl 2 rfl ?_
  refine z_ishr hX dX2_mayHave_2 3 rfl ?_
  refine z_iconst hX dX2_mayHave_3 qi_1 4 rfl ?_
  refine z_iand hX dX2_mayHave_4 5 rfl ?_
  refine z_if_ne hX dX2_mayHave_5 52 8 (by decide) rfl (fun hc => ?_) (fun hc => ?_)
  · rw [if_neg hc] at h
    refine z_iconst hX dX2_mayHave_52 qi_0 53 rfl ?_
    exact z_zreturn hX dX2_mayHave_53 (by decide) (zend_ip h)
  · rw [if_pos hc] at h
    refine z_aload_n hX dX2_mayHave_8 rfl 9 rfl ?_
    refine z_getF hX fX2_61 dX2_mayHave_9 (zsW0 hv0) (by decide) rfl 12 rfl ?_
    refine z_iload_n hX dX2_mayHave_12 rfl 13 rfl ?_
    obtain ⟨hb, h1_⟩ := zgd h
    refine z_iald hX dX2_mayHave_13 (zsW4 hv0) (zok_in hb) 14 rfl ?_
    refine z_iconst hX dX2_mayHave_14 qi_2 15 rfl ?_
    refine z_icmp_eq hX dX2_mayHave_15 52 18 (by decide) rfl (fun hc => ?_) (fun hc => ?_)
    · rw [if_pos hc] at h1_
      refine z_iconst hX dX2_mayHave_52 qi_0 53 rfl ?_
      exact z_zreturn hX dX2_mayHave_53 (by decide) (zend_ip h1_)
    · rw [if_neg hc] at h1_
      refine z_aload_n hX dX2_mayHave_18 rfl 19 rfl ?_
      refine z_getF hX fX2_64 dX2_mayHave_19 (zsW0 hv0) (by decide) rfl 22 rfl ?_
      refine z_iload_n hX dX2_mayHave_22 rfl 23 rfl ?_
      obtain ⟨hb, h2_⟩ := zgd h1_
      refine z_iald hX dX2_mayHave_23 (zsW8 hv0) (zok_in hb) 24 rfl ?_
      refine z_if_ne hX dX2_mayHave_24 52 27 (by decide) rfl (fun hc => ?_) (fun hc => ?_)
      · rw [if_neg hc] at h2_
        refine z_iconst hX dX2_mayHave_52 qi_0 53 rfl ?_
        exact z_zreturn hX dX2_mayHave_53 (by decide) (zend_ip h2_)
      · rw [if_pos hc] at h2_
        refine z_aload_n hX dX2_mayHave_27 rfl 28 rfl ?_
        obtain ⟨p3_, hm, hp3_, h4_⟩ := zgP_of h2_
        refine z_getRN hX hv0 dX2_mayHave_28 (by decide) hm 31 rfl ?_
        refine z_getF hX fX2_67 dX2_mayHave_31 (zsP0 hp3_) (by decide) rfl 34 rfl ?_
        refine z_iload_n hX dX2_mayHave_34 rfl 35 rfl ?_
        obtain ⟨hb, h5_⟩ := zgd h4_
        refine z_iald hX dX2_mayHave_35 (zsP7 hp3_) (zok_in hb) 36 rfl ?_
        refine z_aload_n hX dX2_mayHave_36 rfl 37 rfl ?_
        obtain ⟨p6_, hm, hp6_, h7_⟩ := zgP_of h5_
        refine z_getRN hX hv0 dX2_mayHave_37 (by decide) hm 40 rfl ?_
        refine z_getF hX fX2_70 dX2_mayHave_40 (zsP0 hp6_) (by decide) rfl 43 rfl ?_
        refine z_iload_n hX dX2_mayHave_43 rfl 44 rfl ?_
        obtain ⟨hb, h8_⟩ := zgd h7_
        refine z_iald hX dX2_mayHave_44 (zsP4 hp6_) (zok_in hb) 45 rfl ?_
        refine z_icmp_gt hX dX2_mayHave_45 52 48 (by decide) rfl (fun hc => ?_) (fun hc => ?_)
        · rw [if_pos hc] at h8_
          refine z_iconst hX dX2_mayHave_52 qi_0 53 rfl ?_
          exact z_zreturn hX dX2_mayHave_53 (by decide) (zend_ip h8_)
        · rw [if_neg hc] at h8_
          refine z_iconst hX dX2_mayHave_48 qi_1 49 rfl ?_
          refine z_goto hX dX2_mayHave_49 53 (by decide) ?_
          exact z_zreturn hX dX2_mayHave_53 (by decide) (zend_ip h8_)
def gX2_worthWith (v1 : Nat) (x2 : Int32) (x3 : Int32) (x4 : Int32) (M : zM) : Option Int32 :=
  zgP (M.2.2 v1 0) (fun p1_ => zg (zok x3 8) (zg (zok (((x2 + 1) * 256) + (x4 ||| ((1 : Int32) <<< ((x3 : Int32) &&& 31)))) 1792) (some ((M.1 (p1_ + 6) (x3 : Int32).toNatClampNeg) + (M.1 96 ((((x2 + 1) * 256) + (x4 ||| ((1 : Int32) <<< ((x3 : Int32) &&& 31)))) : Int32).toNatClampNeg)))))
set_option maxRecDepth 100000 in
set_option maxHeartbeats 2000000 in
theorem mX2_worthWith {G : zG} {v1 : Nat} {x2 : Int32} {x3 : Int32} {x4 : Int32} {M : zM} (hv1 : isW v1) {res : Int32} (h : gX2_worthWith v1 x2 x3 x4 M = some res) : Ct G 1 tX2_worthWith [.ref 95, .ref v1, .int x2, .int x3, .int x4] M (zQip M res) := by
  unfold gX2_worthWith at h
  refine Ct.of (y := yX2_worthWith) rfl plX2 (Nat.le_of_ble_eq_true rfl) (fun X hX => ?_)
  replace hX : zC G X cX2_worthWith 5 RX2 (some .int) 1 := hX
  show Z G X _ 0 [some (.ref 95), some (.ref v1), some (.int x2), some (.int x3), some (.int x4)] [] M
  refine z_aload_n hX dX2_worthWith_0 rfl 1 rfl ?_
  obtain ⟨p1_, hm, hp1_, h2_⟩ := zgP_of h
  refine z_getRN hX hv1 dX2_worthWith_1 (by decide) hm 4 rfl ?_
  refine z_getF hX fX2_58 dX2_worthWith_4 (zsP0 hp1_) (by decide) rfl 7 rfl ?_
  refine z_iload_n hX dX2_worthWith_7 rfl 8 rfl ?_
  obtain ⟨hb, h3_⟩ := zgd h2_
  refine z_iald hX dX2_worthWith_8 (zsP6 hp1_) (zok_in hb) 9 rfl ?_
  refine z_aload_n hX dX2_worthWith_9 rfl 10 rfl ?_
  refine z_getF hX fX2_11 dX2_worthWith_10 zs_95 (by decide) rfl 13 rfl ?_
  refine z_iload_n hX dX2_worthWith_13 rfl 14 rfl ?_
  refine z_iconst hX dX2_worthWith_14 qi_1 15 rfl ?_
  refine z_iadd hX dX2_worthWith_15 16 rfl ?_
  refine z_sipush hX dX2_worthWith_16 qs_256 19 rfl ?_
  refine z_imul hX dX2_worthWith_19 20 rfl ?_
  refine z_iload hX dX2_worthWith_20 rfl 22 rfl ?_
  refine z_iconst hX dX2_worthWith_22 qi_1 23 rfl ?_
  refine z_iload_n hX dX2_worthWith_23 rfl 24 rfl ?_
  refine z_ishl hX dX2_worthWith_24 25 rfl ?_
  refine z_ior hX dX2_worthWith_25 26 rfl ?_
  refine z_iadd hX dX2_worthWith_26 27 rfl ?_
  obtain ⟨hb, h4_⟩ := zgd h3_
  refine z_iald hX dX2_worthWith_27 zs_96 (zok_in hb) 28 rfl ?_
  refine z_iadd hX dX2_worthWith_28 29 rfl ?_
  exact z_ireturn hX dX2_worthWith_29 (zend_ip h4_)
def gX2_firstOf_L3 (v1 : Nat) (x2 : Int32) (x3 : Int32) (M : zM) (rc3 : Int32 → Option Int32) (s : Int32) : Option Int32 :=
  zgP (M.2.2 v1 0) (fun p1_ => (if (M.1 p1_ 5) ≤ s then some (-2)
  else (if 8 ≤ s then some (-2)
  else zcI (gX2_mayHave v1 x2 s x3 M) (fun v3_ => (if v3_ = 0 then rc3 (s + 1)
  else zcI (gX2_worthWith v1 x2 s x3 M) (fun v5_ => zg (zok ((x2 * 256) + x3) 1792) ((if v5_ = (M.1 96 (((x2 * 256) + x3) : Int32).toNatClampNeg) then some s
  else rc3 (s + 1)))))))))
set_option maxRecDepth 100000 in
set_option maxHeartbeats 2000000 in
theorem aX2_firstOf_L3 {G : zG} {X : zX} {v1 : Nat} {x2 : Int32} {x3 : Int32} (hX : zC G X cX2_firstOf 5 RX2 (some .int) 2) (hv1 : isW v1)  {M : zM} {res : Int32}  : ∀ (N : Nat) (s : Int32), zfix N (gX2_firstOf_L3 v1 x2 x3 M) s = some res → Z G X (zQip M res) 3 [some (.ref 95), some (.ref v1), some (.int x2), some (.int x3), some (.int s)] [] M := by
  intro N
  induction N with
  | zero => intro s h; cases h
  | succ N hrc3 =>
    intro s h
    replace h : gX2_firstOf_L3 v1 x2 x3 M (zfix N (gX2_firstOf_L3 v1 x2 x3 M)) s = some res := h
    unfold gX2_firstOf_L3 at h
    refine z_iload hX dX2_firstOf_3 rfl 5 rfl ?_
    refine z_aload_n hX dX2_firstOf_5 rfl 6 rfl ?_
    obtain ⟨p1_, hm, hp1_, h2_⟩ := zgP_of h
    refine z_getRN hX hv1 dX2_firstOf_6 (by decide) hm 9 rfl ?_
    refine z_getI hX fX2_36 dX2_firstOf_9 (zsP0 hp1_) (by decide) rfl 12 rfl ?_
    refine z_icmp_ge hX dX2_firstOf_12 66 15 (by decide) rfl (fun hc => ?_) (fun hc => ?_)
    · rw [if_pos hc] at h2_
      refine z_bipush hX dX2_firstOf_66 qb_m2 68 rfl ?_
      exact z_ireturn hX dX2_firstOf_68 (zend_ip h2_)
    · rw [if_neg hc] at h2_
      refine z_iload hX dX2_firstOf_15 rfl 17 rfl ?_
      refine z_bipush hX dX2_firstOf_17 qb_8 19 rfl ?_
      refine z_icmp_ge hX dX2_firstOf_19 66 22 (by decide) rfl (fun hc => ?_) (fun hc => ?_)
      · rw [if_pos hc] at h2_
        refine z_bipush hX dX2_firstOf_66 qb_m2 68 rfl ?_
        exact z_ireturn hX dX2_firstOf_68 (zend_ip h2_)
      · rw [if_neg hc] at h2_
        refine z_aload_n hX dX2_firstOf_22 rfl 23 rfl ?_
        refine z_iload_n hX dX2_firstOf_23 rfl 24 rfl ?_
        refine z_iload hX dX2_firstOf_24 rfl 26 rfl ?_
        refine z_iload_n hX dX2_firstOf_26 rfl 27 rfl ?_
        obtain ⟨v3_, hq, h4_⟩ := zcI_of h2_
        refine z_callS hX vX2_mayHave rfl lX2_47 dX2_firstOf_27 (mX2_mayHave hv1 hq) (by decide) rfl rfl (Nat.le_of_ble_eq_true rfl) 30 rfl (Qi.to (fun v' M' hv => ?_))
        obtain ⟨rfl, rfl⟩ := hv
        refine z_if_eq hX dX2_firstOf_30 60 33 (by decide) rfl (fun hc => ?_) (fun hc => ?_)
        · rw [if_pos hc] at h4_
          refine z_iinc (v := (s + 1)) hX dX2_firstOf_60 rfl (by rfl) (by decide) 63 rfl ?_
          refine z_goto hX dX2_firstOf_63 3 (by decide) ?_
          refine z_mask [true, true, true, true, true] ?_
          have hz := hrc3 _ h4_
          exact hz
        · rw [if_neg hc] at h4_
          refine z_aload_n hX dX2_firstOf_33 rfl 34 rfl ?_
          refine z_aload_n hX dX2_firstOf_34 rfl 35 rfl ?_
          refine z_iload_n hX dX2_firstOf_35 rfl 36 rfl ?_
          refine z_iload hX dX2_firstOf_36 rfl 38 rfl ?_
          refine z_iload_n hX dX2_firstOf_38 rfl 39 rfl ?_
          obtain ⟨v5_, hq, h6_⟩ := zcI_of h4_
          refine z_callV hX vX2_worthWith lX2_51 dX2_firstOf_39 zs_95 rfl (mX2_worthWith hv1 hq) (by decide) rfl rfl (Nat.le_of_ble_eq_true rfl) 42 rfl (Qi.to (fun v' M' hv => ?_))
          obtain ⟨rfl, rfl⟩ := hv
          refine z_aload_n hX dX2_firstOf_42 rfl 43 rfl ?_
          refine z_getF hX fX2_11 dX2_firstOf_43 zs_95 (by decide) rfl 46 rfl ?_
          refine z_iload_n hX dX2_firstOf_46 rfl 47 rfl ?_
          refine z_sipush hX dX2_firstOf_47 qs_256 50 rfl ?_
          refine z_imul hX dX2_firstOf_50 51 rfl ?_
          refine z_iload_n hX dX2_firstOf_51 rfl 52 rfl ?_
          refine z_iadd hX dX2_firstOf_52 53 rfl ?_
          obtain ⟨hb, h7_⟩ := zgd h6_
          refine z_iald hX dX2_firstOf_53 zs_96 (zok_in hb) 54 rfl ?_
          refine z_icmp_ne hX dX2_firstOf_54 60 57 (by decide) rfl (fun hc => ?_) (fun hc => ?_)
          · rw [if_neg hc] at h7_
            refine z_iinc (v := (s + 1)) hX dX2_firstOf_60 rfl (by rfl) (by decide) 63 rfl ?_
            refine z_goto hX dX2_firstOf_63 3 (by decide) ?_
            refine z_mask [true, true, true, true, true] ?_
            have hz := hrc3 _ h7_
            exact hz
          · rw [if_pos hc] at h7_
            refine z_iload hX dX2_firstOf_57 rfl 59 rfl ?_
            exact z_ireturn hX dX2_firstOf_59 (zend_ip h7_)
def gX2_firstOf (v1 : Nat) (x2 : Int32) (x3 : Int32) (M : zM) : Option Int32 :=
  zfix zFu (gX2_firstOf_L3 v1 x2 x3 M) 0
set_option maxRecDepth 100000 in
set_option maxHeartbeats 2000000 in
theorem mX2_firstOf {G : zG} {v1 : Nat} {x2 : Int32} {x3 : Int32} {M : zM} (hv1 : isW v1) {res : Int32} (h : gX2_firstOf v1 x2 x3 M = some res) : Ct G 2 tX2_firstOf [.ref 95, .ref v1, .int x2, .int x3] M (zQip M res) := by
  unfold gX2_firstOf at h
  refine Ct.of (y := yX2_firstOf) rfl plX2 (Nat.le_of_ble_eq_true rfl) (fun X hX => ?_)
  replace hX : zC G X cX2_firstOf 5 RX2 (some .int) 2 := hX
  show Z G X _ 0 [some (.ref 95), some (.ref v1), some (.int x2), some (.int x3), none] [] M
  refine z_iconst hX dX2_firstOf_0 qi_0 1 rfl ?_
  refine z_istore hX dX2_firstOf_1 (by decide) 3 rfl ?_
  refine z_mask [true, true, true, true, true] ?_
  have hz := aX2_firstOf_L3 hX hv1 _ _ h
  exact hz
def gX2_choose_L5 (v1 : Nat) (x2 : Int32) (rc5 : (Int32 × Int32 × zM) → Option zM) (s : (Int32 × Int32 × zM)) : Option zM :=
  (if 6 ≤ s.2.1 then some s.2.2
  else zg (zok s.2.1 6) (zlet (zI s.2.2 97 (s.2.1 : Int32).toNatClampNeg (-2)) (fun M2_ => (if x2 ≤ s.2.1 then rc5 (s.1, (s.2.1 + 1), M2_)
  else zg (zok (((s.2.1 + 1) * 256) + s.1) 1792) (zg (zok ((s.2.1 * 256) + s.1) 1792) ((if (M2_.1 96 ((((s.2.1 + 1) * 256) + s.1) : Int32).toNatClampNeg) = (M2_.1 96 (((s.2.1 * 256) + s.1) : Int32).toNatClampNeg) then rc5 (s.1, (s.2.1 + 1), M2_)
  else zcI (gX2_firstOf v1 s.2.1 s.1 M2_) (fun v6_ => zg (zok s.2.1 6) (zlet (zI M2_ 97 (s.2.1 : Int32).toNatClampNeg v6_) (fun M9_ => zg (zok s.2.1 6) ((if (M9_.1 97 (s.2.1 : Int32).toNatClampNeg) < 0 then rc5 ((s.1 ||| 0), (s.2.1 + 1), M9_)
  else zg (zok s.2.1 6) (zlet ((s.1 ||| ((1 : Int32) <<< (((M9_.1 97 (s.2.1 : Int32).toNatClampNeg) : Int32) &&& 31)))) (fun x13_ => rc5 (x13_, (s.2.1 + 1), M9_)))))))))))))))
set_option maxRecDepth 100000 in
set_option maxHeartbeats 2000000 in
theorem aX2_choose_L5 {G : zG} {X : zX} {v1 : Nat} {x2 : Int32} (hX : zC G X cX2_choose 5 RX2 none 3) (hv1 : isW v1)   {res : zM}  : ∀ (N : Nat) (s : (Int32 × Int32 × zM)), zfix N (gX2_choose_L5 v1 x2) s = some res → Z G X (zQv res) 5 [some (.ref 95), some (.ref v1), some (.int x2), some (.int s.1), some (.int s.2.1)] [] s.2.2 := by
  intro N
  induction N with
  | zero => intro s h; cases h
  | succ N hrc5 =>
    intro s h
    replace h : gX2_choose_L5 v1 x2 (zfix N (gX2_choose_L5 v1 x2)) s = some res := h
    unfold gX2_choose_L5 at h
    refine z_iload hX dX2_choose_5 rfl 7 rfl ?_
    refine z_bipush hX dX2_choose_7 qb_6 9 rfl ?_
    refine z_icmp_ge hX dX2_choose_9 105 12 (by decide) rfl (fun hc => ?_) (fun hc => ?_)
    · rw [if_pos hc] at h
      exact z_return hX dX2_choose_105 (zend_v h)
    · rw [if_neg hc] at h
      refine z_aload_n hX dX2_choose_12 rfl 13 rfl ?_
      refine z_getF hX fX2_15 dX2_choose_13 zs_95 (by decide) rfl 16 rfl ?_
      refine z_iload hX dX2_choose_16 rfl 18 rfl ?_
      refine z_bipush hX dX2_choose_18 qb_m2 20 rfl ?_
      obtain ⟨hb, h1_⟩ := zgd h
      refine z_iast hX dX2_choose_20 zs_97 (zok_in hb) 21 rfl ?_
      refine z_mem h1_ (fun M2_ h3_ => ?_)
      refine z_iload hX dX2_choose_21 rfl 23 rfl ?_
      refine z_iload_n hX dX2_choose_23 rfl 24 rfl ?_
      refine z_icmp_ge hX dX2_choose_24 99 27 (by decide) rfl (fun hc => ?_) (fun hc => ?_)
      · rw [if_pos hc] at h3_
        refine z_iinc (v := (s.2.1 + 1)) hX dX2_choose_99 rfl (by rfl) (by decide) 102 rfl ?_
        refine z_goto hX dX2_choose_102 5 (by decide) ?_
        refine z_mask [true, true, true, true, true] ?_
        have hz := hrc5 _ h3_
        exact hz
      · rw [if_neg hc] at h3_
        refine z_aload_n hX dX2_choose_27 rfl 28 rfl ?_
        refine z_getF hX fX2_11 dX2_choose_28 zs_95 (by decide) rfl 31 rfl ?_
        refine z_iload hX dX2_choose_31 rfl 33 rfl ?_
        refine z_iconst hX dX2_choose_33 qi_1 34 rfl ?_
        refine z_iadd hX dX2_choose_34 35 rfl ?_
        refine z_sipush hX dX2_choose_35 qs_256 38 rfl ?_
        refine z_imul hX dX2_choose_38 39 rfl ?_
        refine z_iload_n hX dX2_choose_39 rfl 40 rfl ?_
        refine z_iadd hX dX2_choose_40 41 rfl ?_
        obtain ⟨hb, h4_⟩ := zgd h3_
        refine z_iald hX dX2_choose_41 zs_96 (zok_in hb) 42 rfl ?_
        refine z_aload_n hX dX2_choose_42 rfl 43 rfl ?_
        refine z_getF hX fX2_11 dX2_choose_43 zs_95 (by decide) rfl 46 rfl ?_
        refine z_iload hX dX2_choose_46 rfl 48 rfl ?_
        refine z_sipush hX dX2_choose_48 qs_256 51 rfl ?_
        refine z_imul hX dX2_choose_51 52 rfl ?_
        refine z_iload_n hX dX2_choose_52 rfl 53 rfl ?_
        refine z_iadd hX dX2_choose_53 54 rfl ?_
        obtain ⟨hb, h5_⟩ := zgd h4_
        refine z_iald hX dX2_choose_54 zs_96 (zok_in hb) 55 rfl ?_
        refine z_icmp_eq hX dX2_choose_55 99 58 (by decide) rfl (fun hc => ?_) (fun hc => ?_)
        · rw [if_pos hc] at h5_
          refine z_iinc (v := (s.2.1 + 1)) hX dX2_choose_99 rfl (by rfl) (by decide) 102 rfl ?_
          refine z_goto hX dX2_choose_102 5 (by decide) ?_
          refine z_mask [true, true, true, true, true] ?_
          have hz := hrc5 _ h5_
          exact hz
        · rw [if_neg hc] at h5_
          refine z_aload_n hX dX2_choose_58 rfl 59 rfl ?_
          refine z_getF hX fX2_15 dX2_choose_59 zs_95 (by decide) rfl 62 rfl ?_
          refine z_iload hX dX2_choose_62 rfl 64 rfl ?_
          refine z_aload_n hX dX2_choose_64 rfl 65 rfl ?_
          refine z_aload_n hX dX2_choose_65 rfl 66 rfl ?_
          refine z_iload hX dX2_choose_66 rfl 68 rfl ?_
          refine z_iload_n hX dX2_choose_68 rfl 69 rfl ?_
          obtain ⟨v6_, hq, h7_⟩ := zcI_of h5_
          refine z_callV hX vX2_firstOf lX2_73 dX2_choose_69 zs_95 rfl (mX2_firstOf hv1 hq) (by decide) rfl rfl (Nat.le_of_ble_eq_true rfl) 72 rfl (Qi.to (fun v' M' hv => ?_))
          obtain ⟨rfl, rfl⟩ := hv
          obtain ⟨hb, h8_⟩ := zgd h7_
          refine z_iast hX dX2_choose_72 zs_97 (zok_in hb) 73 rfl ?_
          refine z_mem h8_ (fun M9_ h10_ => ?_)
          refine z_iload_n hX dX2_choose_73 rfl 74 rfl ?_
          refine z_aload_n hX dX2_choose_74 rfl 75 rfl ?_
          refine z_getF hX fX2_15 dX2_choose_75 zs_95 (by decide) rfl 78 rfl ?_
          refine z_iload hX dX2_choose_78 rfl 80 rfl ?_
          obtain ⟨hb, h11_⟩ := zgd h10_
          refine z_iald hX dX2_choose_80 zs_97 (zok_in hb) 81 rfl ?_
          refine z_if_lt hX dX2_choose_81 96 84 (by decide) rfl (fun hc => ?_) (fun hc => ?_)
          · rw [if_pos hc] at h11_
            refine z_iconst hX dX2_choose_96 qi_0 97 rfl ?_
            refine z_ior hX dX2_choose_97 98 rfl ?_
            refine z_istore_n hX dX2_choose_98 (by decide) 99 rfl ?_
            refine z_iinc (v := (s.2.1 + 1)) hX dX2_choose_99 rfl (by rfl) (by decide) 102 rfl ?_
            refine z_goto hX dX2_choose_102 5 (by decide) ?_
            refine z_mask [true, true, true, true, true] ?_
            have hz := hrc5 _ h11_
            exact hz
          · rw [if_neg hc] at h11_
            refine z_iconst hX dX2_choose_84 qi_1 85 rfl ?_
            refine z_aload_n hX dX2_choose_85 rfl 86 rfl ?_
            refine z_getF hX fX2_15 dX2_choose_86 zs_95 (by decide) rfl 89 rfl ?_
            refine z_iload hX dX2_choose_89 rfl 91 rfl ?_
            obtain ⟨hb, h12_⟩ := zgd h11_
            refine z_iald hX dX2_choose_91 zs_97 (zok_in hb) 92 rfl ?_
            refine z_ishl hX dX2_choose_92 93 rfl ?_
            refine z_goto hX dX2_choose_93 97 (by decide) ?_
            refine z_ior hX dX2_choose_97 98 rfl ?_
            refine z_topi h12_ (fun x13_ h14_ => ?_)
            refine z_istore_n hX dX2_choose_98 (by decide) 99 rfl ?_
            refine z_iinc (v := (s.2.1 + 1)) hX dX2_choose_99 rfl (by rfl) (by decide) 102 rfl ?_
            refine z_goto hX dX2_choose_102 5 (by decide) ?_
            refine z_mask [true, true, true, true, true] ?_
            have hz := hrc5 _ h14_
            exact hz
def gX2_choose (v1 : Nat) (x2 : Int32) (M : zM) : Option zM :=
  zfix zFu (gX2_choose_L5 v1 x2) (0, 0, M)
set_option maxRecDepth 100000 in
set_option maxHeartbeats 2000000 in
theorem mX2_choose {G : zG} {v1 : Nat} {x2 : Int32} {M : zM} (hv1 : isW v1) {res : zM} (h : gX2_choose v1 x2 M = some res) : Ct G 3 tX2_choose [.ref 95, .ref v1, .int x2] M (zQv res) := by
  unfold gX2_choose at h
  refine Ct.of (y := yX2_choose) rfl plX2 (Nat.le_of_ble_eq_true rfl) (fun X hX => ?_)
  replace hX : zC G X cX2_choose 5 RX2 none 3 := hX
  show Z G X _ 0 [some (.ref 95), some (.ref v1), some (.int x2), none, none] [] M
  refine z_iconst hX dX2_choose_0 qi_0 1 rfl ?_
  refine z_istore_n hX dX2_choose_1 (by decide) 2 rfl ?_
  refine z_iconst hX dX2_choose_2 qi_0 3 rfl ?_
  refine z_istore hX dX2_choose_3 (by decide) 5 rfl ?_
  refine z_mask [true, true, true, true, true] ?_
  have hz := aX2_choose_L5 hX hv1 _ _ h
  exact hz
def gX2_mostOf_L19 (v1 : Nat) (x2 : Int32) (x3 : Int32) (M : zM) (rc19 : (Int32 × Int32) → Option Int32) (s : (Int32 × Int32)) : Option Int32 :=
  zgP (M.2.2 v1 0) (fun p4_ => (if (M.1 p4_ 5) ≤ s.2 then some s.1
  else (if 8 ≤ s.2 then some s.1
  else zcI (gX2_mayHave v1 x2 s.2 x3 M) (fun v6_ => (if v6_ = 0 then rc19 (s.1, (s.2 + 1))
  else zcI (gX2_worthWith v1 x2 s.2 x3 M) (fun v8_ => zlet ((if s.1 < v8_ then v8_ else s.1)) (fun x10_ => rc19 (x10_, (s.2 + 1)))))))))
set_option maxRecDepth 100000 in
set_option maxHeartbeats 2000000 in
theorem aX2_mostOf_L19 {G : zG} {X : zX} {v1 : Nat} {x2 : Int32} {x3 : Int32} (hX : zC G X cX2_mostOf 6 RX2 (some .int) 2) (hv1 : isW v1)  {M : zM} {res : Int32}  : ∀ (N : Nat) (s : (Int32 × Int32)), zfix N (gX2_mostOf_L19 v1 x2 x3 M) s = some res → Z G X (zQip M res) 19 [some (.ref 95), some (.ref v1), some (.int x2), some (.int x3), some (.int s.1), some (.int s.2)] [] M := by
  intro N
  induction N with
  | zero => intro s h; cases h
  | succ N hrc19 =>
    intro s h
    replace h : gX2_mostOf_L19 v1 x2 x3 M (zfix N (gX2_mostOf_L19 v1 x2 x3 M)) s = some res := h
    unfold gX2_mostOf_L19 at h
    refine z_iload hX dX2_mostOf_19 rfl 21 rfl ?_
    refine z_aload_n hX dX2_mostOf_21 rfl 22 rfl ?_
    obtain ⟨p4_, hm, hp4_, h5_⟩ := zgP_of h
    refine z_getRN hX hv1 dX2_mostOf_22 (by decide) hm 25 rfl ?_
    refine z_getI hX fX2_36 dX2_mostOf_25 (zsP0 hp4_) (by decide) rfl 28 rfl ?_
    refine z_icmp_ge hX dX2_mostOf_28 71 31 (by decide) rfl (fun hc => ?_) (fun hc => ?_)
    · rw [if_pos hc] at h5_
      refine z_iload hX dX2_mostOf_71 rfl 73 rfl ?_
      exact z_ireturn hX dX2_mostOf_73 (zend_ip h5_)
    · rw [if_neg hc] at h5_
      refine z_iload hX dX2_mostOf_31 rfl 33 rfl ?_
      refine z_bipush hX dX2_mostOf_33 qb_8 35 rfl ?_
      refine z_icmp_ge hX dX2_mostOf_35 71 38 (by decide) rfl (fun hc => ?_) (fun hc => ?_)
      · rw [if_pos hc] at h5_
        refine z_iload hX dX2_mostOf_71 rfl 73 rfl ?_
        exact z_ireturn hX dX2_mostOf_73 (zend_ip h5_)
      · rw [if_neg hc] at h5_
        refine z_aload_n hX dX2_mostOf_38 rfl 39 rfl ?_
        refine z_iload_n hX dX2_mostOf_39 rfl 40 rfl ?_
        refine z_iload hX dX2_mostOf_40 rfl 42 rfl ?_
        refine z_iload_n hX dX2_mostOf_42 rfl 43 rfl ?_
        obtain ⟨v6_, hq, h7_⟩ := zcI_of h5_
        refine z_callS hX vX2_mayHave rfl lX2_47 dX2_mostOf_43 (mX2_mayHave hv1 hq) (by decide) rfl rfl (Nat.le_of_ble_eq_true rfl) 46 rfl (Qi.to (fun v' M' hv => ?_))
        obtain ⟨rfl, rfl⟩ := hv
        refine z_if_eq hX dX2_mostOf_46 65 49 (by decide) rfl (fun hc => ?_) (fun hc => ?_)
        · rw [if_pos hc] at h7_
          refine z_iinc (v := (s.2 + 1)) hX dX2_mostOf_65 rfl (by rfl) (by decide) 68 rfl ?_
          refine z_goto hX dX2_mostOf_68 19 (by decide) ?_
          refine z_mask [true, true, true, true, true, true] ?_
          have hz := hrc19 _ h7_
          exact hz
        · rw [if_neg hc] at h7_
          refine z_iload hX dX2_mostOf_49 rfl 51 rfl ?_
          refine z_aload_n hX dX2_mostOf_51 rfl 52 rfl ?_
          refine z_aload_n hX dX2_mostOf_52 rfl 53 rfl ?_
          refine z_iload_n hX dX2_mostOf_53 rfl 54 rfl ?_
          refine z_iload hX dX2_mostOf_54 rfl 56 rfl ?_
          refine z_iload_n hX dX2_mostOf_56 rfl 57 rfl ?_
          obtain ⟨v8_, hq, h9_⟩ := zcI_of h7_
          refine z_callV hX vX2_worthWith lX2_51 dX2_mostOf_57 zs_95 rfl (mX2_worthWith hv1 hq) (by decide) rfl rfl (Nat.le_of_ble_eq_true rfl) 60 rfl (Qi.to (fun v' M' hv => ?_))
          obtain ⟨rfl, rfl⟩ := hv
          refine z_max hX dX2_mostOf_60 lX2_55 (by decide) (Nat.le_of_ble_eq_true rfl) 63 rfl ?_
          refine z_topi h9_ (fun x10_ h11_ => ?_)
          refine z_istore hX dX2_mostOf_63 (by decide) 65 rfl ?_
          refine z_iinc (v := (s.2 + 1)) hX dX2_mostOf_65 rfl (by rfl) (by decide) 68 rfl ?_
          refine z_goto hX dX2_mostOf_68 19 (by decide) ?_
          refine z_mask [true, true, true, true, true, true] ?_
          have hz := hrc19 _ h11_
          exact hz
def gX2_mostOf (v1 : Nat) (x2 : Int32) (x3 : Int32) (M : zM) : Option Int32 :=
  zg (zok (((x2 + 1) * 256) + x3) 1792) (zlet ((M.1 96 ((((x2 + 1) * 256) + x3) : Int32).toNatClampNeg)) (fun x2_ => zfix zFu (gX2_mostOf_L19 v1 x2 x3 M) (x2_, 0)))
set_option maxRecDepth 100000 in
set_option maxHeartbeats 2000000 in
theorem mX2_mostOf {G : zG} {v1 : Nat} {x2 : Int32} {x3 : Int32} {M : zM} (hv1 : isW v1) {res : Int32} (h : gX2_mostOf v1 x2 x3 M = some res) : Ct G 2 tX2_mostOf [.ref 95, .ref v1, .int x2, .int x3] M (zQip M res) := by
  unfold gX2_mostOf at h
  refine Ct.of (y := yX2_mostOf) rfl plX2 (Nat.le_of_ble_eq_true rfl) (fun X hX => ?_)
  replace hX : zC G X cX2_mostOf 6 RX2 (some .int) 2 := hX
  show Z G X _ 0 [some (.ref 95), some (.ref v1), some (.int x2), some (.int x3), none, none] [] M
  refine z_aload_n hX dX2_mostOf_0 rfl 1 rfl ?_
  refine z_getF hX fX2_11 dX2_mostOf_1 zs_95 (by decide) rfl 4 rfl ?_
  refine z_iload_n hX dX2_mostOf_4 rfl 5 rfl ?_
  refine z_iconst hX dX2_mostOf_5 qi_1 6 rfl ?_
  refine z_iadd hX dX2_mostOf_6 7 rfl ?_
  refine z_sipush hX dX2_mostOf_7 qs_256 10 rfl ?_
  refine z_imul hX dX2_mostOf_10 11 rfl ?_
  refine z_iload_n hX dX2_mostOf_11 rfl 12 rfl ?_
  refine z_iadd hX dX2_mostOf_12 13 rfl ?_
  obtain ⟨hb, h1_⟩ := zgd h
  refine z_iald hX dX2_mostOf_13 zs_96 (zok_in hb) 14 rfl ?_
  refine z_topi h1_ (fun x2_ h3_ => ?_)
  refine z_istore hX dX2_mostOf_14 (by decide) 16 rfl ?_
  refine z_iconst hX dX2_mostOf_16 qi_0 17 rfl ?_
  refine z_istore hX dX2_mostOf_17 (by decide) 19 rfl ?_
  refine z_mask [true, true, true, true, true, true] ?_
  have hz := aX2_mostOf_L19 hX hv1 _ _ h3_
  exact hz
def gX2_solve_L70 (v1 : Nat) (x2 : Int32) (x3 : Int32) (x4 : Int32) (rc62 : (Int32 × zM) → Option (Int32 × zM)) (rc70 : (Int32 × zM) → Option (Int32 × zM)) (s : (Int32 × zM)) : Option (Int32 × zM) :=
  (if x3 ≤ s.1 then rc62 ((x4 + (-1)), s.2)
  else zcI (gX2_mostOf v1 x4 s.1 s.2) (fun v11_ => zg (zok ((x4 * 256) + s.1) 1792) (zlet (zI s.2 96 (((x4 * 256) + s.1) : Int32).toNatClampNeg v11_) (fun M14_ => rc70 ((s.1 + 1), M14_)))))
set_option maxRecDepth 100000 in
set_option maxHeartbeats 2000000 in
theorem aX2_solve_L70 {G : zG} {X : zX} {v1 : Nat} {x2 : Int32} {x3 : Int32} {x4 : Int32} (hX : zC G X cX2_solve 6 RX2 (some .int) 4) (hv1 : isW v1) {rc62 : (Int32 × zM) → Option (Int32 × zM)}  {res : (Int32 × zM)} (hrc62 : ∀ s : (Int32 × zM), rc62 s = some res → Z G X (zQi res) 62 [some (.ref 95), some (.ref v1), some (.int x2), some (.int x3), some (.int s.1), none] [] s.2) : ∀ (N : Nat) (s : (Int32 × zM)), zfix N (gX2_solve_L70 v1 x2 x3 x4 rc62) s = some res → Z G X (zQi res) 70 [some (.ref 95), some (.ref v1), some (.int x2), some (.int x3), some (.int x4), some (.int s.1)] [] s.2 := by
  intro N
  induction N with
  | zero => intro s h; cases h
  | succ N hrc70 =>
    intro s h
    replace h : gX2_solve_L70 v1 x2 x3 x4 rc62 (zfix N (gX2_solve_L70 v1 x2 x3 x4 rc62)) s = some res := h
    unfold gX2_solve_L70 at h
    refine z_iload hX dX2_solve_70 rfl 72 rfl ?_
    refine z_iload_n hX dX2_solve_72 rfl 73 rfl ?_
    refine z_icmp_ge hX dX2_solve_73 105 76 (by decide) rfl (fun hc => ?_) (fun hc => ?_)
    · rw [if_pos hc] at h
      refine z_iinc (v := (x4 + (-1))) hX dX2_solve_105 rfl (by rfl) (by decide) 108 rfl ?_
      refine z_goto hX dX2_solve_108 62 (by decide) ?_
      refine z_mask [true, true, true, true, true, false] ?_
      have hz := hrc62 _ h
      exact hz
    · rw [if_neg hc] at h
      refine z_aload_n hX dX2_solve_76 rfl 77 rfl ?_
      refine z_getF hX fX2_11 dX2_solve_77 zs_95 (by decide) rfl 80 rfl ?_
      refine z_iload hX dX2_solve_80 rfl 82 rfl ?_
      refine z_sipush hX dX2_solve_82 qs_256 85 rfl ?_
      refine z_imul hX dX2_solve_85 86 rfl ?_
      refine z_iload hX dX2_solve_86 rfl 88 rfl ?_
      refine z_iadd hX dX2_solve_88 89 rfl ?_
      refine z_aload_n hX dX2_solve_89 rfl 90 rfl ?_
      refine z_aload_n hX dX2_solve_90 rfl 91 rfl ?_
      refine z_iload hX dX2_solve_91 rfl 93 rfl ?_
      refine z_iload hX dX2_solve_93 rfl 95 rfl ?_
      obtain ⟨v11_, hq, h12_⟩ := zcI_of h
      refine z_callV hX vX2_mostOf lX2_39 dX2_solve_95 zs_95 rfl (mX2_mostOf hv1 hq) (by decide) rfl rfl (Nat.le_of_ble_eq_true rfl) 98 rfl (Qi.to (fun v' M' hv => ?_))
      obtain ⟨rfl, rfl⟩ := hv
      obtain ⟨hb, h13_⟩ := zgd h12_
      refine z_iast hX dX2_solve_98 zs_96 (zok_in hb) 99 rfl ?_
      refine z_mem h13_ (fun M14_ h15_ => ?_)
      refine z_iinc (v := (s.1 + 1)) hX dX2_solve_99 rfl (by rfl) (by decide) 102 rfl ?_
      refine z_goto hX dX2_solve_102 70 (by decide) ?_
      refine z_mask [true, true, true, true, true, true] ?_
      have hz := hrc70 _ h15_
      exact hz
def gX2_solve_L62 (v1 : Nat) (x2 : Int32) (x3 : Int32) (rc62 : (Int32 × zM) → Option (Int32 × zM)) (s : (Int32 × zM)) : Option (Int32 × zM) :=
  (if s.1 < 0 then zcV (gX2_choose v1 x2 s.2) (fun M9_ => some ((M9_.1 96 (0 : Int32).toNatClampNeg), M9_))
  else zfix zFu (gX2_solve_L70 v1 x2 x3 s.1 rc62) (0, s.2))
set_option maxRecDepth 100000 in
set_option maxHeartbeats 2000000 in
theorem aX2_solve_L62 {G : zG} {X : zX} {v1 : Nat} {x2 : Int32} {x3 : Int32} (hX : zC G X cX2_solve 6 RX2 (some .int) 4) (hv1 : isW v1)   {res : (Int32 × zM)}  : ∀ (N : Nat) (s : (Int32 × zM)), zfix N (gX2_solve_L62 v1 x2 x3) s = some res → Z G X (zQi res) 62 [some (.ref 95), some (.ref v1), some (.int x2), some (.int x3), some (.int s.1), none] [] s.2 := by
  intro N
  induction N with
  | zero => intro s h; cases h
  | succ N hrc62 =>
    intro s h
    replace h : gX2_solve_L62 v1 x2 x3 (zfix N (gX2_solve_L62 v1 x2 x3)) s = some res := h
    unfold gX2_solve_L62 at h
    refine z_iload hX dX2_solve_62 rfl 64 rfl ?_
    refine z_if_lt hX dX2_solve_64 111 67 (by decide) rfl (fun hc => ?_) (fun hc => ?_)
    · rw [if_pos hc] at h
      refine z_aload_n hX dX2_solve_111 rfl 112 rfl ?_
      refine z_aload_n hX dX2_solve_112 rfl 113 rfl ?_
      refine z_iload_n hX dX2_solve_113 rfl 114 rfl ?_
      obtain ⟨M9_, hq, h10_⟩ := zcV_of h
      refine z_callV hX vX2_choose lX2_43 dX2_solve_114 zs_95 rfl (mX2_choose hv1 hq) (by decide) rfl rfl (Nat.le_of_ble_eq_true rfl) 117 rfl (Qv.to (fun M' hv => ?_))
      subst hv
      refine z_aload_n hX dX2_solve_117 rfl 118 rfl ?_
      refine z_getF hX fX2_11 dX2_solve_118 zs_95 (by decide) rfl 121 rfl ?_
      refine z_iconst hX dX2_solve_121 qi_0 122 rfl ?_
      refine z_iald hX dX2_solve_122 zs_96 (zok_in (by decide)) 123 rfl ?_
      exact z_ireturn hX dX2_solve_123 (zend_i h10_)
    · rw [if_neg hc] at h
      refine z_iconst hX dX2_solve_67 qi_0 68 rfl ?_
      refine z_istore hX dX2_solve_68 (by decide) 70 rfl ?_
      refine z_mask [true, true, true, true, true, true] ?_
      have hz := aX2_solve_L70 hX hv1 hrc62 _ _ h
      exact hz
def gX2_solve_L31 (v1 : Nat) (x2 : Int32) (x3 : Int32) (rc31 : (Int32 × zM) → Option (Int32 × zM)) (s : (Int32 × zM)) : Option (Int32 × zM) :=
  (if x3 ≤ s.1 then zfix zFu (gX2_solve_L62 v1 x2 x3) ((x2 - 1), s.2)
  else zg (zok ((x2 * 256) + s.1) 1792) (zlet (zI s.2 96 (((x2 * 256) + s.1) : Int32).toNatClampNeg 0) (fun M17_ => rc31 ((s.1 + 1), M17_))))
set_option maxRecDepth 100000 in
set_option maxHeartbeats 2000000 in
theorem aX2_solve_L31 {G : zG} {X : zX} {v1 : Nat} {x2 : Int32} {x3 : Int32} (hX : zC G X cX2_solve 6 RX2 (some .int) 4) (hv1 : isW v1)   {res : (Int32 × zM)}  : ∀ (N : Nat) (s : (Int32 × zM)), zfix N (gX2_solve_L31 v1 x2 x3) s = some res → Z G X (zQi res) 31 [some (.ref 95), some (.ref v1), some (.int x2), some (.int x3), some (.int s.1), none] [] s.2 := by
  intro N
  induction N with
  | zero => intro s h; cases h
  | succ N hrc31 =>
    intro s h
    replace h : gX2_solve_L31 v1 x2 x3 (zfix N (gX2_solve_L31 v1 x2 x3)) s = some res := h
    unfold gX2_solve_L31 at h
    refine z_iload hX dX2_solve_31 rfl 33 rfl ?_
    refine z_iload_n hX dX2_solve_33 rfl 34 rfl ?_
    refine z_icmp_ge hX dX2_solve_34 57 37 (by decide) rfl (fun hc => ?_) (fun hc => ?_)
    · rw [if_pos hc] at h
      refine z_iload_n hX dX2_solve_57 rfl 58 rfl ?_
      refine z_iconst hX dX2_solve_58 qi_1 59 rfl ?_
      refine z_isub hX dX2_solve_59 60 rfl ?_
      refine z_istore hX dX2_solve_60 (by decide) 62 rfl ?_
      refine z_mask [true, true, true, true, true, false] ?_
      have hz := aX2_solve_L62 hX hv1 _ _ h
      exact hz
    · rw [if_neg hc] at h
      refine z_aload_n hX dX2_solve_37 rfl 38 rfl ?_
      refine z_getF hX fX2_11 dX2_solve_38 zs_95 (by decide) rfl 41 rfl ?_
      refine z_iload_n hX dX2_solve_41 rfl 42 rfl ?_
      refine z_sipush hX dX2_solve_42 qs_256 45 rfl ?_
      refine z_imul hX dX2_solve_45 46 rfl ?_
      refine z_iload hX dX2_solve_46 rfl 48 rfl ?_
      refine z_iadd hX dX2_solve_48 49 rfl ?_
      refine z_iconst hX dX2_solve_49 qi_0 50 rfl ?_
      obtain ⟨hb, h16_⟩ := zgd h
      refine z_iast hX dX2_solve_50 zs_96 (zok_in hb) 51 rfl ?_
      refine z_mem h16_ (fun M17_ h18_ => ?_)
      refine z_iinc (v := (s.1 + 1)) hX dX2_solve_51 rfl (by rfl) (by decide) 54 rfl ?_
      refine z_goto hX dX2_solve_54 31 (by decide) ?_
      refine z_mask [true, true, true, true, true, false] ?_
      have hz := hrc31 _ h18_
      exact hz
def gX2_solve (v1 : Nat) (M : zM) : Option (Int32 × zM) :=
  zgP (M.2.2 v1 0) (fun p1_ => zlet ((if 6 < (M.1 p1_ 0) then 6 else (M.1 p1_ 0))) (fun x3_ => zgP (M.2.2 v1 0) (fun p5_ => zlet (((1 : Int32) <<< (((if 8 < (M.1 p5_ 5) then 8 else (M.1 p5_ 5)) : Int32) &&& 31))) (fun x7_ => zfix zFu (gX2_solve_L31 v1 x3_ x7_) (0, M)))))
set_option maxRecDepth 100000 in
set_option maxHeartbeats 2000000 in
theorem mX2_solve {G : zG} {v1 : Nat} {M : zM} (hv1 : isW v1) {res : (Int32 × zM)} (h : gX2_solve v1 M = some res) : Ct G 4 tX2_solve [.ref 95, .ref v1] M (zQi res) := by
  unfold gX2_solve at h
  refine Ct.of (y := yX2_solve) rfl plX2 (Nat.le_of_ble_eq_true rfl) (fun X hX => ?_)
  replace hX : zC G X cX2_solve 6 RX2 (some .int) 4 := hX
  show Z G X _ 0 [some (.ref 95), some (.ref v1), none, none, none, none] [] M
  refine z_aload_n hX dX2_solve_0 rfl 1 rfl ?_
  obtain ⟨p1_, hm, hp1_, h2_⟩ := zgP_of h
  refine z_getRN hX hv1 dX2_solve_1 (by decide) hm 4 rfl ?_
  refine z_getI hX fX2_24 dX2_solve_4 (zsP0 hp1_) (by decide) rfl 7 rfl ?_
  refine z_bipush hX dX2_solve_7 qb_6 9 rfl ?_
  refine z_min hX dX2_solve_9 lX2_30 (by decide) (Nat.le_of_ble_eq_true rfl) 12 rfl ?_
  refine z_topi h2_ (fun x3_ h4_ => ?_)
  refine z_istore_n hX dX2_solve_12 (by decide) 13 rfl ?_
  refine z_iconst hX dX2_solve_13 qi_1 14 rfl ?_
  refine z_aload_n hX dX2_solve_14 rfl 15 rfl ?_
  obtain ⟨p5_, hm, hp5_, h6_⟩ := zgP_of h4_
  refine z_getRN hX hv1 dX2_solve_15 (by decide) hm 18 rfl ?_
  refine z_getI hX fX2_36 dX2_solve_18 (zsP0 hp5_) (by decide) rfl 21 rfl ?_
  refine z_bipush hX dX2_solve_21 qb_8 23 rfl ?_
  refine z_min hX dX2_solve_23 lX2_30 (by decide) (Nat.le_of_ble_eq_true rfl) 26 rfl ?_
  refine z_ishl hX dX2_solve_26 27 rfl ?_
  refine z_topi h6_ (fun x7_ h8_ => ?_)
  refine z_istore_n hX dX2_solve_27 (by decide) 28 rfl ?_
  refine z_iconst hX dX2_solve_28 qi_0 29 rfl ?_
  refine z_istore hX dX2_solve_29 (by decide) 31 rfl ?_
  refine z_mask [true, true, true, true, true, false] ?_
  have hz := aX2_solve_L31 hX hv1 _ _ h8_
  exact hz
def gX9_match (x1 : Int32) (M : zM) : Option (Int32 × zM) :=
  (if x1 < 0 then some ((-1), M)
  else (if x1 ≤ 6 then zcIM (gX2_solve 55 M) (fun v1_ M2_ => (if x1 = 6 then some (v1_, M2_)
  else zg (zok x1 6) (some ((M2_.1 97 (x1 : Int32).toNatClampNeg), M2_))))
  else some ((-1), M)))
set_option maxRecDepth 100000 in
set_option maxHeartbeats 2000000 in
theorem mX9_match {G : zG} {x1 : Int32} {M : zM}  {res : (Int32 × zM)} (h : gX9_match x1 M = some res) : Ct G 5 tX9_match [.ref 0, .int x1] M (zQi res) := by
  unfold gX9_match at h
  refine Ct.of (y := yX9_match) rfl plX9 (Nat.le_of_ble_eq_true rfl) (fun X hX => ?_)
  replace hX : zC G X cX9_match 3 RX9 (some .int) 5 := hX
  show Z G X _ 0 [some (.ref 0), some (.int x1), none] [] M
  refine z_iload_n hX dX9_match_0 rfl 1 rfl ?_
  refine z_if_lt hX dX9_match_1 10 4 (by decide) rfl (fun hc => ?_) (fun hc => ?_)
  · rw [if_pos hc] at h
    refine z_iconst hX dX9_match_10 qi_m1 11 rfl ?_
    exact z_ireturn hX dX9_match_11 (zend_i h)
  · rw [if_neg hc] at h
    refine z_iload_n hX dX9_match_4 rfl 5 rfl ?_
    refine z_bipush hX dX9_match_5 qb_6 7 rfl ?_
    refine z_icmp_le hX dX9_match_7 12 10 (by decide) rfl (fun hc => ?_) (fun hc => ?_)
    · rw [if_pos hc] at h
      refine z_aload_n hX dX9_match_12 rfl 13 rfl ?_
      refine z_getF hX fX9_68 dX9_match_13 zs_0 (by decide) rfl 16 rfl ?_
      refine z_aload_n hX dX9_match_16 rfl 17 rfl ?_
      refine z_getF hX fX9_41 dX9_match_17 zs_0 (by decide) rfl 20 rfl ?_
      obtain ⟨v1_, M2_, hq, h3_⟩ := zcIM_of h
      refine z_callV hX vX2_solve lX9_305 dX9_match_20 zs_95 rfl (mX2_solve isW_55 hq) (by decide) rfl rfl (Nat.le_of_ble_eq_true rfl) 23 rfl (Qi.to (fun v' M' hv => ?_))
      cases hv
      refine z_istore_n hX dX9_match_23 (by decide) 24 rfl ?_
      refine z_iload_n hX dX9_match_24 rfl 25 rfl ?_
      refine z_bipush hX dX9_match_25 qb_6 27 rfl ?_
      refine z_icmp_ne hX dX9_match_27 34 30 (by decide) rfl (fun hc => ?_) (fun hc => ?_)
      · rw [if_neg hc] at h3_
        refine z_aload_n hX dX9_match_34 rfl 35 rfl ?_
        refine z_getF hX fX9_68 dX9_match_35 zs_0 (by decide) rfl 38 rfl ?_
        refine z_getF hX fX9_309 dX9_match_38 zs_95 (by decide) rfl 41 rfl ?_
        refine z_iload_n hX dX9_match_41 rfl 42 rfl ?_
        obtain ⟨hb, h4_⟩ := zgd h3_
        refine z_iald hX dX9_match_42 zs_97 (zok_in hb) 43 rfl ?_
        exact z_ireturn hX dX9_match_43 (zend_i h4_)
      · rw [if_pos hc] at h3_
        refine z_iload_n hX dX9_match_30 rfl 31 rfl ?_
        refine z_goto hX dX9_match_31 43 (by decide) ?_
        exact z_ireturn hX dX9_match_43 (zend_i h3_)
    · rw [if_neg hc] at h
      refine z_iconst hX dX9_match_10 qi_m1 11 rfl ?_
      exact z_ireturn hX dX9_match_11 (zend_i h)
def gX9_next_L28 (M : zM) (rc28 : (Int32 × Int32 × Int32) → Option Int32) (s : (Int32 × Int32 × Int32)) : Option Int32 :=
  zgP (M.2.2 0 2) (fun p8_ => (if (M.1 p8_ 0) ≤ s.2.2 then some s.1
  else (if 6 ≤ s.2.2 then some s.1
  else zg (zok s.2.2 6) (zlet ((M.1 56 (s.2.2 : Int32).toNatClampNeg)) (fun x11_ => zcI (gX9_isMan x11_ M) (fun v13_ => (if v13_ = 0 then rc28 (s.1, s.2.1, (s.2.2 + 1))
  else zg (zok x11_ 6) ((if (M.1 59 (x11_ : Int32).toNatClampNeg) = 0 then zg (zok x11_ 6) ((if (M.1 62 (x11_ : Int32).toNatClampNeg) = 0 then zgP (M.2.2 0 2) (fun p17_ => zg (zok x11_ 6) ((if (M.1 (p17_ + 4) (x11_ : Int32).toNatClampNeg) ≤ s.2.1 then rc28 (s.1, s.2.1, (s.2.2 + 1))
  else zgP (M.2.2 0 2) (fun p20_ => zg (zok x11_ 6) (zlet ((M.1 (p20_ + 4) (x11_ : Int32).toNatClampNeg)) (fun x23_ => rc28 (x11_, x23_, (s.2.2 + 1))))))))
  else rc28 (s.1, s.2.1, (s.2.2 + 1))))
  else rc28 (s.1, s.2.1, (s.2.2 + 1)))))))))))
set_option maxRecDepth 100000 in
set_option maxHeartbeats 2000000 in
theorem aX9_next_L28 {G : zG} {X : zX} (hX : zC G X cX9_next 6 RX9 (some .int) 2)   {M : zM} {res : Int32}  : ∀ (N : Nat) (s : (Int32 × Int32 × Int32)), zfix N (gX9_next_L28 M) s = some res → Z G X (zQip M res) 28 [some (.ref 0), none, some (.int s.1), some (.int s.2.1), some (.int s.2.2), none] [] M := by
  intro N
  induction N with
  | zero => intro s h; cases h
  | succ N hrc28 =>
    intro s h
    replace h : gX9_next_L28 M (zfix N (gX9_next_L28 M)) s = some res := h
    unfold gX9_next_L28 at h
    refine z_iload hX dX9_next_28 rfl 30 rfl ?_
    refine z_aload_n hX dX9_next_30 rfl 31 rfl ?_
    obtain ⟨p8_, hm, hp8_, h9_⟩ := zgP_of h
    refine z_getR hX fX9_18 dX9_next_31 zs_0 (by decide) rfl hm 34 rfl ?_
    refine z_getI hX fX9_116 dX9_next_34 (zsP0 hp8_) (by decide) rfl 37 rfl ?_
    refine z_icmp_ge hX dX9_next_37 128 40 (by decide) rfl (fun hc => ?_) (fun hc => ?_)
    · rw [if_pos hc] at h9_
      refine z_iload_n hX dX9_next_128 rfl 129 rfl ?_
      exact z_ireturn hX dX9_next_129 (zend_ip h9_)
    · rw [if_neg hc] at h9_
      refine z_iload hX dX9_next_40 rfl 42 rfl ?_
      refine z_bipush hX dX9_next_42 qb_6 44 rfl ?_
      refine z_icmp_ge hX dX9_next_44 128 47 (by decide) rfl (fun hc => ?_) (fun hc => ?_)
      · rw [if_pos hc] at h9_
        refine z_iload_n hX dX9_next_128 rfl 129 rfl ?_
        exact z_ireturn hX dX9_next_129 (zend_ip h9_)
      · rw [if_neg hc] at h9_
        refine z_aload_n hX dX9_next_47 rfl 48 rfl ?_
        refine z_getF hX fX9_41 dX9_next_48 zs_0 (by decide) rfl 51 rfl ?_
        refine z_getF hX fX9_312 dX9_next_51 zs_55 (by decide) rfl 54 rfl ?_
        refine z_iload hX dX9_next_54 rfl 56 rfl ?_
        obtain ⟨hb, h10_⟩ := zgd h9_
        refine z_iald hX dX9_next_56 zs_56 (zok_in hb) 57 rfl ?_
        refine z_topi h10_ (fun x11_ h12_ => ?_)
        refine z_istore hX dX9_next_57 (by decide) 59 rfl ?_
        refine z_aload_n hX dX9_next_59 rfl 60 rfl ?_
        refine z_iload hX dX9_next_60 rfl 62 rfl ?_
        obtain ⟨v13_, hq, h14_⟩ := zcI_of h12_
        refine z_callV hX vX9_isMan lX9_129 dX9_next_62 zs_0 rfl (mX9_isMan  hq) (by decide) rfl rfl (Nat.le_of_ble_eq_true rfl) 65 rfl (Qi.to (fun v' M' hv => ?_))
        obtain ⟨rfl, rfl⟩ := hv
        refine z_if_eq hX dX9_next_65 122 68 (by decide) rfl (fun hc => ?_) (fun hc => ?_)
        · rw [if_pos hc] at h14_
          refine z_iinc (v := (s.2.2 + 1)) hX dX9_next_122 rfl (by rfl) (by decide) 125 rfl ?_
          refine z_goto hX dX9_next_125 28 (by decide) ?_
          refine z_mask [true, false, true, true, true, false] ?_
          have hz := hrc28 _ h14_
          exact hz
        · rw [if_neg hc] at h14_
          refine z_aload_n hX dX9_next_68 rfl 69 rfl ?_
          refine z_getF hX fX9_41 dX9_next_69 zs_0 (by decide) rfl 72 rfl ?_
          refine z_getF hX fX9_152 dX9_next_72 zs_55 (by decide) rfl 75 rfl ?_
          refine z_iload hX dX9_next_75 rfl 77 rfl ?_
          obtain ⟨hb, h15_⟩ := zgd h14_
          refine z_iald hX dX9_next_77 zs_59 (zok_in hb) 78 rfl ?_
          refine z_if_ne hX dX9_next_78 122 81 (by decide) rfl (fun hc => ?_) (fun hc => ?_)
          · rw [if_neg hc] at h15_
            refine z_iinc (v := (s.2.2 + 1)) hX dX9_next_122 rfl (by rfl) (by decide) 125 rfl ?_
            refine z_goto hX dX9_next_125 28 (by decide) ?_
            refine z_mask [true, false, true, true, true, false] ?_
            have hz := hrc28 _ h15_
            exact hz
          · rw [if_pos hc] at h15_
            refine z_aload_n hX dX9_next_81 rfl 82 rfl ?_
            refine z_getF hX fX9_41 dX9_next_82 zs_0 (by decide) rfl 85 rfl ?_
            refine z_getF hX fX9_165 dX9_next_85 zs_55 (by decide) rfl 88 rfl ?_
            refine z_iload hX dX9_next_88 rfl 90 rfl ?_
            obtain ⟨hb, h16_⟩ := zgd h15_
            refine z_zald hX dX9_next_90 zs_62 (zok_in hb) 91 rfl ?_
            refine z_if_ne hX dX9_next_91 122 94 (by decide) rfl (fun hc => ?_) (fun hc => ?_)
            · rw [if_neg hc] at h16_
              refine z_iinc (v := (s.2.2 + 1)) hX dX9_next_122 rfl (by rfl) (by decide) 125 rfl ?_
              refine z_goto hX dX9_next_125 28 (by decide) ?_
              refine z_mask [true, false, true, true, true, false] ?_
              have hz := hrc28 _ h16_
              exact hz
            · rw [if_pos hc] at h16_
              refine z_aload_n hX dX9_next_94 rfl 95 rfl ?_
              obtain ⟨p17_, hm, hp17_, h18_⟩ := zgP_of h16_
              refine z_getR hX fX9_18 dX9_next_95 zs_0 (by decide) rfl hm 98 rfl ?_
              refine z_getF hX fX9_146 dX9_next_98 (zsP0 hp17_) (by decide) rfl 101 rfl ?_
              refine z_iload hX dX9_next_101 rfl 103 rfl ?_
              obtain ⟨hb, h19_⟩ := zgd h18_
              refine z_iald hX dX9_next_103 (zsP4 hp17_) (zok_in hb) 104 rfl ?_
              refine z_iload_n hX dX9_next_104 rfl 105 rfl ?_
              refine z_icmp_le hX dX9_next_105 122 108 (by decide) rfl (fun hc => ?_) (fun hc => ?_)
              · rw [if_pos hc] at h19_
                refine z_iinc (v := (s.2.2 + 1)) hX dX9_next_122 rfl (by rfl) (by decide) 125 rfl ?_
                refine z_goto hX dX9_next_125 28 (by decide) ?_
                refine z_mask [true, false, true, true, true, false] ?_
                have hz := hrc28 _ h19_
                exact hz
              · rw [if_neg hc] at h19_
                refine z_iload hX dX9_next_108 rfl 110 rfl ?_
                refine z_istore_n hX dX9_next_110 (by decide) 111 rfl ?_
                refine z_aload_n hX dX9_next_111 rfl 112 rfl ?_
                obtain ⟨p20_, hm, hp20_, h21_⟩ := zgP_of h19_
                refine z_getR hX fX9_18 dX9_next_112 zs_0 (by decide) rfl hm 115 rfl ?_
                refine z_getF hX fX9_146 dX9_next_115 (zsP0 hp20_) (by decide) rfl 118 rfl ?_
                refine z_iload hX dX9_next_118 rfl 120 rfl ?_
                obtain ⟨hb, h22_⟩ := zgd h21_
                refine z_iald hX dX9_next_120 (zsP4 hp20_) (zok_in hb) 121 rfl ?_
                refine z_topi h22_ (fun x23_ h24_ => ?_)
                refine z_istore_n hX dX9_next_121 (by decide) 122 rfl ?_
                refine z_iinc (v := (s.2.2 + 1)) hX dX9_next_122 rfl (by rfl) (by decide) 125 rfl ?_
                refine z_goto hX dX9_next_125 28 (by decide) ?_
                refine z_mask [true, false, true, true, true, false] ?_
                have hz := hrc28 _ h24_
                exact hz
def gX9_next (x1 : Int32) (M : zM) : Option Int32 :=
  zcI (gX9_isThing x1 M) (fun v1_ => (if v1_ = 0 then some (-1)
  else zgP (M.2.2 0 2) (fun p3_ => zg (zok x1 8) (zlet (((M.1 (p3_ + 7) (x1 : Int32).toNatClampNeg) - 1)) (fun x6_ => zfix zFu (gX9_next_L28 M) ((-2), x6_, 0))))))
set_option maxRecDepth 100000 in
set_option maxHeartbeats 2000000 in
theorem mX9_next {G : zG} {x1 : Int32} {M : zM}  {res : Int32} (h : gX9_next x1 M = some res) : Ct G 2 tX9_next [.ref 0, .int x1] M (zQip M res) := by
  unfold gX9_next at h
  refine Ct.of (y := yX9_next) rfl plX9 (Nat.le_of_ble_eq_true rfl) (fun X hX => ?_)
  replace hX : zC G X cX9_next 6 RX9 (some .int) 2 := hX
  show Z G X _ 0 [some (.ref 0), some (.int x1), none, none, none, none] [] M
  refine z_aload_n hX dX9_next_0 rfl 1 rfl ?_
  refine z_iload_n hX dX9_next_1 rfl 2 rfl ?_
  obtain ⟨v1_, hq, h2_⟩ := zcI_of h
  refine z_callV hX vX9_isThing lX9_174 dX9_next_2 zs_0 rfl (mX9_isThing  hq) (by decide) rfl rfl (Nat.le_of_ble_eq_true rfl) 5 rfl (Qi.to (fun v' M' hv => ?_))
  obtain ⟨rfl, rfl⟩ := hv
  refine z_if_ne hX dX9_next_5 10 8 (by decide) rfl (fun hc => ?_) (fun hc => ?_)
  · rw [if_neg hc] at h2_
    refine z_bipush hX dX9_next_10 qb_m2 12 rfl ?_
    refine z_istore_n hX dX9_next_12 (by decide) 13 rfl ?_
    refine z_aload_n hX dX9_next_13 rfl 14 rfl ?_
    obtain ⟨p3_, hm, hp3_, h4_⟩ := zgP_of h2_
    refine z_getR hX fX9_18 dX9_next_14 zs_0 (by decide) rfl hm 17 rfl ?_
    refine z_getF hX fX9_180 dX9_next_17 (zsP0 hp3_) (by decide) rfl 20 rfl ?_
    refine z_iload_n hX dX9_next_20 rfl 21 rfl ?_
    obtain ⟨hb, h5_⟩ := zgd h4_
    refine z_iald hX dX9_next_21 (zsP7 hp3_) (zok_in hb) 22 rfl ?_
    refine z_iconst hX dX9_next_22 qi_1 23 rfl ?_
    refine z_isub hX dX9_next_23 24 rfl ?_
    refine z_topi h5_ (fun x6_ h7_ => ?_)
    refine z_istore_n hX dX9_next_24 (by decide) 25 rfl ?_
    refine z_iconst hX dX9_next_25 qi_0 26 rfl ?_
    refine z_istore hX dX9_next_26 (by decide) 28 rfl ?_
    refine z_mask [true, false, true, true, true, false] ?_
    have hz := aX9_next_L28 hX _ _ h7_
    exact hz
  · rw [if_pos hc] at h2_
    refine z_iconst hX dX9_next_8 qi_m1 9 rfl ?_
    exact z_ireturn hX dX9_next_9 (zend_ip h2_)
def gX9_worthOfRow_L46  (rc46 : (Int32 × zM) → Option (Int32 × zM)) (s : (Int32 × zM)) : Option (Int32 × zM) :=
  (if 30 ≤ s.1 then zcI (gX8_savedWorth 65 s.2) (fun v3_ => zcI (gX8_savedWorth 55 s.2) (fun v5_ => some ((v3_ - v5_), s.2)))
  else zcV (gX8_pass 65 0 s.2) (fun M7_ => rc46 ((s.1 + 1), M7_)))
set_option maxRecDepth 100000 in
set_option maxHeartbeats 2000000 in
theorem aX9_worthOfRow_L46 {G : zG} {X : zX} (hX : zC G X cX9_worthOfRow 3 RX9 (some .int) 6)    {res : (Int32 × zM)}  : ∀ (N : Nat) (s : (Int32 × zM)), zfix N (gX9_worthOfRow_L46 ) s = some res → Z G X (zQi res) 46 [some (.ref 0), none, some (.int s.1)] [] s.2 := by
  intro N
  induction N with
  | zero => intro s h; cases h
  | succ N hrc46 =>
    intro s h
    replace h : gX9_worthOfRow_L46  (zfix N (gX9_worthOfRow_L46 )) s = some res := h
    unfold gX9_worthOfRow_L46 at h
    refine z_iload_n hX dX9_worthOfRow_46 rfl 47 rfl ?_
    refine z_bipush hX dX9_worthOfRow_47 qb_30 49 rfl ?_
    refine z_icmp_ge hX dX9_worthOfRow_49 66 52 (by decide) rfl (fun hc => ?_) (fun hc => ?_)
    · rw [if_pos hc] at h
      refine z_aload_n hX dX9_worthOfRow_66 rfl 67 rfl ?_
      refine z_getF hX fX9_45 dX9_worthOfRow_67 zs_0 (by decide) rfl 70 rfl ?_
      obtain ⟨v3_, hq, h4_⟩ := zcI_of h
      refine z_callV hX vX8_savedWorth lX9_230 dX9_worthOfRow_70 zs_65 rfl (mX8_savedWorth isW_65 hq) (by decide) rfl rfl (Nat.le_of_ble_eq_true rfl) 73 rfl (Qi.to (fun v' M' hv => ?_))
      obtain ⟨rfl, rfl⟩ := hv
      refine z_aload_n hX dX9_worthOfRow_73 rfl 74 rfl ?_
      refine z_getF hX fX9_41 dX9_worthOfRow_74 zs_0 (by decide) rfl 77 rfl ?_
      obtain ⟨v5_, hq, h6_⟩ := zcI_of h4_
      refine z_callV hX vX8_savedWorth lX9_230 dX9_worthOfRow_77 zs_55 rfl (mX8_savedWorth isW_55 hq) (by decide) rfl rfl (Nat.le_of_ble_eq_true rfl) 80 rfl (Qi.to (fun v' M' hv => ?_))
      obtain ⟨rfl, rfl⟩ := hv
      refine z_isub hX dX9_worthOfRow_80 81 rfl ?_
      exact z_ireturn hX dX9_worthOfRow_81 (zend_i h6_)
    · rw [if_neg hc] at h
      refine z_aload_n hX dX9_worthOfRow_52 rfl 53 rfl ?_
      refine z_getF hX fX9_45 dX9_worthOfRow_53 zs_0 (by decide) rfl 56 rfl ?_
      refine z_iconst hX dX9_worthOfRow_56 qi_0 57 rfl ?_
      obtain ⟨M7_, hq, h8_⟩ := zcV_of h
      refine z_callV hX vX8_pass lX9_271 dX9_worthOfRow_57 zs_65 rfl (mX8_pass isW_65 hq) (by decide) rfl rfl (Nat.le_of_ble_eq_true rfl) 60 rfl (Qv.to (fun M' hv => ?_))
      subst hv
      refine z_iinc (v := (s.1 + 1)) hX dX9_worthOfRow_60 rfl (by rfl) (by decide) 63 rfl ?_
      refine z_goto hX dX9_worthOfRow_63 46 (by decide) ?_
      refine z_mask [true, false, true] ?_
      have hz := hrc46 _ h8_
      exact hz
def gX9_worthOfRow_J44 (M : zM) : Option (Int32 × zM) :=
  zfix zFu (gX9_worthOfRow_L46 ) (0, M)
set_option maxRecDepth 100000 in
set_option maxHeartbeats 2000000 in
theorem aX9_worthOfRow_J44 {G : zG} {X : zX} (hX : zC G X cX9_worthOfRow 3 RX9 (some .int) 6)   {M : zM} {res : (Int32 × zM)}  (h : gX9_worthOfRow_J44 M = some res) : Z G X (zQi res) 44 [some (.ref 0), none, none] [] M := by
  unfold gX9_worthOfRow_J44 at h
  refine z_iconst hX dX9_worthOfRow_44 qi_0 45 rfl ?_
  refine z_istore_n hX dX9_worthOfRow_45 (by decide) 46 rfl ?_
  refine z_mask [true, false, true] ?_
  have hz := aX9_worthOfRow_L46 hX _ _ h
  exact hz
def gX9_worthOfRow_L13 (x1 : Int32) (rc13 : (Int32 × zM) → Option (Int32 × zM)) (s : (Int32 × zM)) : Option (Int32 × zM) :=
  (if x1 ≤ s.1 then gX9_worthOfRow_J44 s.2
  else (if 4 ≤ s.1 then gX9_worthOfRow_J44 s.2
  else zg (zok s.1 4) (zg (zok s.1 6) (zlet (zI s.2 66 (s.1 : Int32).toNatClampNeg (s.2.1 2 (s.1 : Int32).toNatClampNeg)) (fun M11_ => rc13 ((s.1 + 1), M11_))))))
set_option maxRecDepth 100000 in
set_option maxHeartbeats 2000000 in
theorem aX9_worthOfRow_L13 {G : zG} {X : zX} {x1 : Int32} (hX : zC G X cX9_worthOfRow 3 RX9 (some .int) 6)    {res : (Int32 × zM)}  : ∀ (N : Nat) (s : (Int32 × zM)), zfix N (gX9_worthOfRow_L13 x1) s = some res → Z G X (zQi res) 13 [some (.ref 0), some (.int x1), some (.int s.1)] [] s.2 := by
  intro N
  induction N with
  | zero => intro s h; cases h
  | succ N hrc13 =>
    intro s h
    replace h : gX9_worthOfRow_L13 x1 (zfix N (gX9_worthOfRow_L13 x1)) s = some res := h
    unfold gX9_worthOfRow_L13 at h
    refine z_iload_n hX dX9_worthOfRow_13 rfl 14 rfl ?_
    refine z_iload_n hX dX9_worthOfRow_14 rfl 15 rfl ?_
    refine z_icmp_ge hX dX9_worthOfRow_15 44 18 (by decide) rfl (fun hc => ?_) (fun hc => ?_)
    · rw [if_pos hc] at h
      refine z_mask [true, false, false] ?_
      have hz := aX9_worthOfRow_J44 hX h
      exact hz
    · rw [if_neg hc] at h
      refine z_iload_n hX dX9_worthOfRow_18 rfl 19 rfl ?_
      refine z_iconst hX dX9_worthOfRow_19 qi_4 20 rfl ?_
      refine z_icmp_ge hX dX9_worthOfRow_20 44 23 (by decide) rfl (fun hc => ?_) (fun hc => ?_)
      · rw [if_pos hc] at h
        refine z_mask [true, false, false] ?_
        have hz := aX9_worthOfRow_J44 hX h
        exact hz
      · rw [if_neg hc] at h
        refine z_aload_n hX dX9_worthOfRow_23 rfl 24 rfl ?_
        refine z_getF hX fX9_45 dX9_worthOfRow_24 zs_0 (by decide) rfl 27 rfl ?_
        refine z_getF hX fX9_312 dX9_worthOfRow_27 zs_65 (by decide) rfl 30 rfl ?_
        refine z_iload_n hX dX9_worthOfRow_30 rfl 31 rfl ?_
        refine z_aload_n hX dX9_worthOfRow_31 rfl 32 rfl ?_
        refine z_getF hX fX9_72 dX9_worthOfRow_32 zs_0 (by decide) rfl 35 rfl ?_
        refine z_iload_n hX dX9_worthOfRow_35 rfl 36 rfl ?_
        obtain ⟨hb, h9_⟩ := zgd h
        refine z_iald hX dX9_worthOfRow_36 zs_2 (zok_in hb) 37 rfl ?_
        obtain ⟨hb, h10_⟩ := zgd h9_
        refine z_iast hX dX9_worthOfRow_37 zs_66 (zok_in hb) 38 rfl ?_
        refine z_mem h10_ (fun M11_ h12_ => ?_)
        refine z_iinc (v := (s.1 + 1)) hX dX9_worthOfRow_38 rfl (by rfl) (by decide) 41 rfl ?_
        refine z_goto hX dX9_worthOfRow_41 13 (by decide) ?_
        refine z_mask [true, true, true] ?_
        have hz := hrc13 _ h12_
        exact hz
def gX9_worthOfRow (x1 : Int32) (M : zM) : Option (Int32 × zM) :=
  zcV (gX8_become 65 55 M) (fun M1_ => zfix zFu (gX9_worthOfRow_L13 x1) (0, M1_))
set_option maxRecDepth 100000 in
set_option maxHeartbeats 2000000 in
theorem mX9_worthOfRow {G : zG} {x1 : Int32} {M : zM}  {res : (Int32 × zM)} (h : gX9_worthOfRow x1 M = some res) : Ct G 6 tX9_worthOfRow [.ref 0, .int x1] M (zQi res) := by
  unfold gX9_worthOfRow at h
  refine Ct.of (y := yX9_worthOfRow) rfl plX9 (Nat.le_of_ble_eq_true rfl) (fun X hX => ?_)
  replace hX : zC G X cX9_worthOfRow 3 RX9 (some .int) 6 := hX
  show Z G X _ 0 [some (.ref 0), some (.int x1), none] [] M
  refine z_aload_n hX dX9_worthOfRow_0 rfl 1 rfl ?_
  refine z_getF hX fX9_45 dX9_worthOfRow_1 zs_0 (by decide) rfl 4 rfl ?_
  refine z_aload_n hX dX9_worthOfRow_4 rfl 5 rfl ?_
  refine z_getF hX fX9_41 dX9_worthOfRow_5 zs_0 (by decide) rfl 8 rfl ?_
  obtain ⟨M1_, hq, h2_⟩ := zcV_of h
  refine z_callV hX vX8_become lX9_275 dX9_worthOfRow_8 zs_65 rfl (mX8_become isW_65 isW_55 hq) (by decide) rfl rfl (Nat.le_of_ble_eq_true rfl) 11 rfl (Qv.to (fun M' hv => ?_))
  subst hv
  refine z_iconst hX dX9_worthOfRow_11 qi_0 12 rfl ?_
  refine z_istore_n hX dX9_worthOfRow_12 (by decide) 13 rfl ?_
  refine z_mask [true, true, true] ?_
  have hz := aX9_worthOfRow_L13 hX _ _ h2_
  exact hz
def gX9_changeInRow (x1 : Int32) (x2 : Int32) (M : zM) : Option zM :=
  (if x1 < 0 then some M
  else (if x2 < 0 then some M
  else (if 4 ≤ x1 then some M
  else (if x2 < 4 then zg (zok x1 4) (zlet ((M.1 2 (x1 : Int32).toNatClampNeg)) (fun x2_ => zg (zok x2 4) (zg (zok x1 4) (zlet (zI M 2 (x1 : Int32).toNatClampNeg (M.1 2 (x2 : Int32).toNatClampNeg)) (fun M6_ => zg (zok x2 4) (zlet (zI M6_ 2 (x2 : Int32).toNatClampNeg x2_) (fun M9_ => some M9_)))))))
  else some M))))
set_option maxRecDepth 100000 in
set_option maxHeartbeats 2000000 in
theorem mX9_changeInRow {G : zG} {x1 : Int32} {x2 : Int32} {M : zM}  {res : zM} (h : gX9_changeInRow x1 x2 M = some res) : Ct G 1 tX9_changeInRow [.ref 0, .int x1, .int x2] M (zQv res) := by
  unfold gX9_changeInRow at h
  refine Ct.of (y := yX9_changeInRow) rfl plX9 (Nat.le_of_ble_eq_true rfl) (fun X hX => ?_)
  replace hX : zC G X cX9_changeInRow 4 RX9 none 1 := hX
  show Z G X _ 0 [some (.ref 0), some (.int x1), some (.int x2), none] [] M
  refine z_iload_n hX dX9_changeInRow_0 rfl 1 rfl ?_
  refine z_if_lt hX dX9_changeInRow_1 18 4 (by decide) rfl (fun hc => ?_) (fun hc => ?_)
  · rw [if_pos hc] at h
    exact z_return hX dX9_changeInRow_18 (zend_v h)
  · rw [if_neg hc] at h
    refine z_iload_n hX dX9_changeInRow_4 rfl 5 rfl ?_
    refine z_if_lt hX dX9_changeInRow_5 18 8 (by decide) rfl (fun hc => ?_) (fun hc => ?_)
    · rw [if_pos hc] at h
      exact z_return hX dX9_changeInRow_18 (zend_v h)
    · rw [if_neg hc] at h
      refine z_iload_n hX dX9_changeInRow_8 rfl 9 rfl ?_
      refine z_iconst hX dX9_changeInRow_9 qi_4 10 rfl ?_
      refine z_icmp_ge hX dX9_changeInRow_10 18 13 (by decide) rfl (fun hc => ?_) (fun hc => ?_)
      · rw [if_pos hc] at h
        exact z_return hX dX9_changeInRow_18 (zend_v h)
      · rw [if_neg hc] at h
        refine z_iload_n hX dX9_changeInRow_13 rfl 14 rfl ?_
        refine z_iconst hX dX9_changeInRow_14 qi_4 15 rfl ?_
        refine z_icmp_lt hX dX9_changeInRow_15 19 18 (by decide) rfl (fun hc => ?_) (fun hc => ?_)
        · rw [if_pos hc] at h
          refine z_aload_n hX dX9_changeInRow_19 rfl 20 rfl ?_
          refine z_getF hX fX9_72 dX9_changeInRow_20 zs_0 (by decide) rfl 23 rfl ?_
          refine z_iload_n hX dX9_changeInRow_23 rfl 24 rfl ?_
          obtain ⟨hb, h1_⟩ := zgd h
          refine z_iald hX dX9_changeInRow_24 zs_2 (zok_in hb) 25 rfl ?_
          refine z_topi h1_ (fun x2_ h3_ => ?_)
          refine z_istore_n hX dX9_changeInRow_25 (by decide) 26 rfl ?_
          refine z_aload_n hX dX9_changeInRow_26 rfl 27 rfl ?_
          refine z_getF hX fX9_72 dX9_changeInRow_27 zs_0 (by decide) rfl 30 rfl ?_
          refine z_iload_n hX dX9_changeInRow_30 rfl 31 rfl ?_
          refine z_aload_n hX dX9_changeInRow_31 rfl 32 rfl ?_
          refine z_getF hX fX9_72 dX9_changeInRow_32 zs_0 (by decide) rfl 35 rfl ?_
          refine z_iload_n hX dX9_changeInRow_35 rfl 36 rfl ?_
          obtain ⟨hb, h4_⟩ := zgd h3_
          refine z_iald hX dX9_changeInRow_36 zs_2 (zok_in hb) 37 rfl ?_
          obtain ⟨hb, h5_⟩ := zgd h4_
          refine z_iast hX dX9_changeInRow_37 zs_2 (zok_in hb) 38 rfl ?_
          refine z_mem h5_ (fun M6_ h7_ => ?_)
          refine z_aload_n hX dX9_changeInRow_38 rfl 39 rfl ?_
          refine z_getF hX fX9_72 dX9_changeInRow_39 zs_0 (by decide) rfl 42 rfl ?_
          refine z_iload_n hX dX9_changeInRow_42 rfl 43 rfl ?_
          refine z_iload_n hX dX9_changeInRow_43 rfl 44 rfl ?_
          obtain ⟨hb, h8_⟩ := zgd h7_
          refine z_iast hX dX9_changeInRow_44 zs_2 (zok_in hb) 45 rfl ?_
          refine z_mem h8_ (fun M9_ h10_ => ?_)
          exact z_return hX dX9_changeInRow_45 (zend_v h10_)
        · rw [if_neg hc] at h
          exact z_return hX dX9_changeInRow_18 (zend_v h)
def gX9_turnRow_L85  (rc85 : (Int32 × Int32 × zM) → Option (Int32 × zM)) (s : (Int32 × Int32 × zM)) : Option (Int32 × zM) :=
  (if s.2.1 ≤ s.1 then some (1, s.2.2)
  else zcV (gX9_changeInRow s.1 s.2.1 s.2.2) (fun M3_ => rc85 ((s.1 + 1), (s.2.1 + (-1)), M3_)))
set_option maxRecDepth 100000 in
set_option maxHeartbeats 2000000 in
theorem aX9_turnRow_L85 {G : zG} {X : zX} (hX : zC G X cX9_turnRow 6 RX9 (some .boolean) 2)    {res : (Int32 × zM)}  : ∀ (N : Nat) (s : (Int32 × Int32 × zM)), zfix N (gX9_turnRow_L85 ) s = some res → Z G X (zQi res) 85 [some (.ref 0), none, none, none, some (.int s.1), some (.int s.2.1)] [] s.2.2 := by
  intro N
  induction N with
  | zero => intro s h; cases h
  | succ N hrc85 =>
    intro s h
    replace h : gX9_turnRow_L85  (zfix N (gX9_turnRow_L85 )) s = some res := h
    unfold gX9_turnRow_L85 at h
    refine z_iload hX dX9_turnRow_85 rfl 87 rfl ?_
    refine z_iload hX dX9_turnRow_87 rfl 89 rfl ?_
    refine z_icmp_ge hX dX9_turnRow_89 109 92 (by decide) rfl (fun hc => ?_) (fun hc => ?_)
    · rw [if_pos hc] at h
      refine z_iconst hX dX9_turnRow_109 qi_1 110 rfl ?_
      exact z_zreturn hX dX9_turnRow_110 (by decide) (zend_i h)
    · rw [if_neg hc] at h
      refine z_aload_n hX dX9_turnRow_92 rfl 93 rfl ?_
      refine z_iload hX dX9_turnRow_93 rfl 95 rfl ?_
      refine z_iload hX dX9_turnRow_95 rfl 97 rfl ?_
      obtain ⟨M3_, hq, h4_⟩ := zcV_of h
      refine z_callV hX vX9_changeInRow lX9_327 dX9_turnRow_97 zs_0 rfl (mX9_changeInRow  hq) (by decide) rfl rfl (Nat.le_of_ble_eq_true rfl) 100 rfl (Qv.to (fun M' hv => ?_))
      subst hv
      refine z_iinc (v := (s.1 + 1)) hX dX9_turnRow_100 rfl (by rfl) (by decide) 103 rfl ?_
      refine z_iinc (v := (s.2.1 + (-1))) hX dX9_turnRow_103 rfl (by rfl) (by decide) 106 rfl ?_
      refine z_goto hX dX9_turnRow_106 85 (by decide) ?_
      refine z_mask [true, false, false, false, true, true] ?_
      have hz := hrc85 _ h4_
      exact hz
def gX9_turnRow_J69 (x1 : Int32) (x2 : Int32) (x3 : Int32) (M : zM) : Option (Int32 × zM) :=
  zcV (gX9_changeInRow x2 x3 M) (fun M1_ => zfix zFu (gX9_turnRow_L85 ) ((x2 + 1), (x1 - 1), M1_))
set_option maxRecDepth 100000 in
set_option maxHeartbeats 2000000 in
theorem aX9_turnRow_J69 {G : zG} {X : zX} {x1 : Int32} {x2 : Int32} {x3 : Int32} (hX : zC G X cX9_turnRow 6 RX9 (some .boolean) 2)   {M : zM} {res : (Int32 × zM)}  (h : gX9_turnRow_J69 x1 x2 x3 M = some res) : Z G X (zQi res) 69 [some (.ref 0), some (.int x1), some (.int x2), some (.int x3), none, none] [] M := by
  unfold gX9_turnRow_J69 at h
  refine z_aload_n hX dX9_turnRow_69 rfl 70 rfl ?_
  refine z_iload_n hX dX9_turnRow_70 rfl 71 rfl ?_
  refine z_iload_n hX dX9_turnRow_71 rfl 72 rfl ?_
  obtain ⟨M1_, hq, h2_⟩ := zcV_of h
  refine z_callV hX vX9_changeInRow lX9_327 dX9_turnRow_72 zs_0 rfl (mX9_changeInRow  hq) (by decide) rfl rfl (Nat.le_of_ble_eq_true rfl) 75 rfl (Qv.to (fun M' hv => ?_))
  subst hv
  refine z_iload_n hX dX9_turnRow_75 rfl 76 rfl ?_
  refine z_iconst hX dX9_turnRow_76 qi_1 77 rfl ?_
  refine z_iadd hX dX9_turnRow_77 78 rfl ?_
  refine z_istore hX dX9_turnRow_78 (by decide) 80 rfl ?_
  refine z_iload_n hX dX9_turnRow_80 rfl 81 rfl ?_
  refine z_iconst hX dX9_turnRow_81 qi_1 82 rfl ?_
  refine z_isub hX dX9_turnRow_82 83 rfl ?_
  refine z_istore hX dX9_turnRow_83 (by decide) 85 rfl ?_
  refine z_mask [true, false, false, false, true, true] ?_
  have hz := aX9_turnRow_L85 hX _ _ h2_
  exact hz
def gX9_turnRow_L41 (x1 : Int32) (x2 : Int32) (M : zM) (rc41 : Int32 → Option (Int32 × zM)) (s : Int32) : Option (Int32 × zM) :=
  (if s ≤ (x2 + 1) then gX9_turnRow_J69 x1 x2 s M
  else zg (zok s 4) (zg (zok x2 4) ((if (M.1 2 (x2 : Int32).toNatClampNeg) ≤ (M.1 2 (s : Int32).toNatClampNeg) then gX9_turnRow_J69 x1 x2 s M
  else rc41 (s + (-1))))))
set_option maxRecDepth 100000 in
set_option maxHeartbeats 2000000 in
theorem aX9_turnRow_L41 {G : zG} {X : zX} {x1 : Int32} {x2 : Int32} (hX : zC G X cX9_turnRow 6 RX9 (some .boolean) 2)   {M : zM} {res : (Int32 × zM)}  : ∀ (N : Nat) (s : Int32), zfix N (gX9_turnRow_L41 x1 x2 M) s = some res → Z G X (zQi res) 41 [some (.ref 0), some (.int x1), some (.int x2), some (.int s), none, none] [] M := by
  intro N
  induction N with
  | zero => intro s h; cases h
  | succ N hrc41 =>
    intro s h
    replace h : gX9_turnRow_L41 x1 x2 M (zfix N (gX9_turnRow_L41 x1 x2 M)) s = some res := h
    unfold gX9_turnRow_L41 at h
    refine z_iload_n hX dX9_turnRow_41 rfl 42 rfl ?_
    refine z_iload_n hX dX9_turnRow_42 rfl 43 rfl ?_
    refine z_iconst hX dX9_turnRow_43 qi_1 44 rfl ?_
    refine z_iadd hX dX9_turnRow_44 45 rfl ?_
    refine z_icmp_le hX dX9_turnRow_45 69 48 (by decide) rfl (fun hc => ?_) (fun hc => ?_)
    · rw [if_pos hc] at h
      refine z_mask [true, true, true, true, false, false] ?_
      have hz := aX9_turnRow_J69 hX h
      exact hz
    · rw [if_neg hc] at h
      refine z_aload_n hX dX9_turnRow_48 rfl 49 rfl ?_
      refine z_getF hX fX9_72 dX9_turnRow_49 zs_0 (by decide) rfl 52 rfl ?_
      refine z_iload_n hX dX9_turnRow_52 rfl 53 rfl ?_
      obtain ⟨hb, h5_⟩ := zgd h
      refine z_iald hX dX9_turnRow_53 zs_2 (zok_in hb) 54 rfl ?_
      refine z_aload_n hX dX9_turnRow_54 rfl 55 rfl ?_
      refine z_getF hX fX9_72 dX9_turnRow_55 zs_0 (by decide) rfl 58 rfl ?_
      refine z_iload_n hX dX9_turnRow_58 rfl 59 rfl ?_
      obtain ⟨hb, h6_⟩ := zgd h5_
      refine z_iald hX dX9_turnRow_59 zs_2 (zok_in hb) 60 rfl ?_
      refine z_icmp_ge hX dX9_turnRow_60 69 63 (by decide) rfl (fun hc => ?_) (fun hc => ?_)
      · rw [if_pos hc] at h6_
        refine z_mask [true, true, true, true, false, false] ?_
        have hz := aX9_turnRow_J69 hX h6_
        exact hz
      · rw [if_neg hc] at h6_
        refine z_iinc (v := (s + (-1))) hX dX9_turnRow_63 rfl (by rfl) (by decide) 66 rfl ?_
        refine z_goto hX dX9_turnRow_66 41 (by decide) ?_
        refine z_mask [true, true, true, true, false, false] ?_
        have hz := hrc41 _ h6_
        exact hz
def gX9_turnRow_J31 (x1 : Int32) (x2 : Int32) (M : zM) : Option (Int32 × zM) :=
  (if 0 ≤ x2 then zfix zFu (gX9_turnRow_L41 x1 x2 M) (x1 - 1)
  else some (0, M))
set_option maxRecDepth 100000 in
set_option maxHeartbeats 2000000 in
theorem aX9_turnRow_J31 {G : zG} {X : zX} {x1 : Int32} {x2 : Int32} (hX : zC G X cX9_turnRow 6 RX9 (some .boolean) 2)   {M : zM} {res : (Int32 × zM)}  (h : gX9_turnRow_J31 x1 x2 M = some res) : Z G X (zQi res) 31 [some (.ref 0), some (.int x1), some (.int x2), none, none, none] [] M := by
  unfold gX9_turnRow_J31 at h
  refine z_iload_n hX dX9_turnRow_31 rfl 32 rfl ?_
  refine z_if_ge hX dX9_turnRow_32 37 35 (by decide) rfl (fun hc => ?_) (fun hc => ?_)
  · rw [if_pos hc] at h
    refine z_iload_n hX dX9_turnRow_37 rfl 38 rfl ?_
    refine z_iconst hX dX9_turnRow_38 qi_1 39 rfl ?_
    refine z_isub hX dX9_turnRow_39 40 rfl ?_
    refine z_istore_n hX dX9_turnRow_40 (by decide) 41 rfl ?_
    refine z_mask [true, true, true, true, false, false] ?_
    have hz := aX9_turnRow_L41 hX _ _ h
    exact hz
  · rw [if_neg hc] at h
    refine z_iconst hX dX9_turnRow_35 qi_0 36 rfl ?_
    exact z_zreturn hX dX9_turnRow_36 (by decide) (zend_i h)
def gX9_turnRow_L4 (x1 : Int32) (M : zM) (rc4 : Int32 → Option (Int32 × zM)) (s : Int32) : Option (Int32 × zM) :=
  (if s < 0 then gX9_turnRow_J31 x1 s M
  else zg (zok s 4) (zg (zok (s + 1) 4) ((if (M.1 2 (s : Int32).toNatClampNeg) ≤ (M.1 2 ((s + 1) : Int32).toNatClampNeg) then gX9_turnRow_J31 x1 s M
  else rc4 (s + (-1))))))
set_option maxRecDepth 100000 in
set_option maxHeartbeats 2000000 in
theorem aX9_turnRow_L4 {G : zG} {X : zX} {x1 : Int32} (hX : zC G X cX9_turnRow 6 RX9 (some .boolean) 2)   {M : zM} {res : (Int32 × zM)}  : ∀ (N : Nat) (s : Int32), zfix N (gX9_turnRow_L4 x1 M) s = some res → Z G X (zQi res) 4 [some (.ref 0), some (.int x1), some (.int s), none, none, none] [] M := by
  intro N
  induction N with
  | zero => intro s h; cases h
  | succ N hrc4 =>
    intro s h
    replace h : gX9_turnRow_L4 x1 M (zfix N (gX9_turnRow_L4 x1 M)) s = some res := h
    unfold gX9_turnRow_L4 at h
    refine z_iload_n hX dX9_turnRow_4 rfl 5 rfl ?_
    refine z_if_lt hX dX9_turnRow_5 31 8 (by decide) rfl (fun hc => ?_) (fun hc => ?_)
    · rw [if_pos hc] at h
      refine z_mask [true, true, true, false, false, false] ?_
      have hz := aX9_turnRow_J31 hX h
      exact hz
    · rw [if_neg hc] at h
      refine z_aload_n hX dX9_turnRow_8 rfl 9 rfl ?_
      refine z_getF hX fX9_72 dX9_turnRow_9 zs_0 (by decide) rfl 12 rfl ?_
      refine z_iload_n hX dX9_turnRow_12 rfl 13 rfl ?_
      obtain ⟨hb, h7_⟩ := zgd h
      refine z_iald hX dX9_turnRow_13 zs_2 (zok_in hb) 14 rfl ?_
      refine z_aload_n hX dX9_turnRow_14 rfl 15 rfl ?_
      refine z_getF hX fX9_72 dX9_turnRow_15 zs_0 (by decide) rfl 18 rfl ?_
      refine z_iload_n hX dX9_turnRow_18 rfl 19 rfl ?_
      refine z_iconst hX dX9_turnRow_19 qi_1 20 rfl ?_
      refine z_iadd hX dX9_turnRow_20 21 rfl ?_
      obtain ⟨hb, h8_⟩ := zgd h7_
      refine z_iald hX dX9_turnRow_21 zs_2 (zok_in hb) 22 rfl ?_
      refine z_icmp_le hX dX9_turnRow_22 31 25 (by decide) rfl (fun hc => ?_) (fun hc => ?_)
      · rw [if_pos hc] at h8_
        refine z_mask [true, true, true, false, false, false] ?_
        have hz := aX9_turnRow_J31 hX h8_
        exact hz
      · rw [if_neg hc] at h8_
        refine z_iinc (v := (s + (-1))) hX dX9_turnRow_25 rfl (by rfl) (by decide) 28 rfl ?_
        refine z_goto hX dX9_turnRow_28 4 (by decide) ?_
        refine z_mask [true, true, true, false, false, false] ?_
        have hz := hrc4 _ h8_
        exact hz
def gX9_turnRow (x1 : Int32) (M : zM) : Option (Int32 × zM) :=
  zfix zFu (gX9_turnRow_L4 x1 M) (x1 - 2)
set_option maxRecDepth 100000 in
set_option maxHeartbeats 2000000 in
theorem mX9_turnRow {G : zG} {x1 : Int32} {M : zM}  {res : (Int32 × zM)} (h : gX9_turnRow x1 M = some res) : Ct G 2 tX9_turnRow [.ref 0, .int x1] M (zQi res) := by
  unfold gX9_turnRow at h
  refine Ct.of (y := yX9_turnRow) rfl plX9 (Nat.le_of_ble_eq_true rfl) (fun X hX => ?_)
  replace hX : zC G X cX9_turnRow 6 RX9 (some .boolean) 2 := hX
  show Z G X _ 0 [some (.ref 0), some (.int x1), none, none, none, none] [] M
  refine z_iload_n hX dX9_turnRow_0 rfl 1 rfl ?_
  refine z_iconst hX dX9_turnRow_1 qi_2 2 rfl ?_
  refine z_isub hX dX9_turnRow_2 3 rfl ?_
  refine z_istore_n hX dX9_turnRow_3 (by decide) 4 rfl ?_
  refine z_mask [true, true, true, false, false, false] ?_
  have hz := aX9_turnRow_L4 hX _ _ h
  exact hz
def gX9_order_J112 (x1 : Int32) (x2 : Int32) (x3 : Int32) (M : zM) : Option (Int32 × zM) :=
  (if x1 = 4 then some (x3, M)
  else (if x2 ≤ x1 then some ((-2), M)
  else zg (zok x1 4) (some ((M.1 3 (x1 : Int32).toNatClampNeg), M))))
set_option maxRecDepth 100000 in
set_option maxHeartbeats 2000000 in
theorem aX9_order_J112 {G : zG} {X : zX} {x1 : Int32} {x2 : Int32} {x3 : Int32} (hX : zC G X cX9_order 6 RX9 (some .int) 7)   {M : zM} {res : (Int32 × zM)}  (h : gX9_order_J112 x1 x2 x3 M = some res) : Z G X (zQi res) 112 [some (.ref 0), some (.int x1), some (.int x2), some (.int x3), none, none] [] M := by
  unfold gX9_order_J112 at h
  refine z_iload_n hX dX9_order_112 rfl 113 rfl ?_
  refine z_iconst hX dX9_order_113 qi_4 114 rfl ?_
  refine z_icmp_ne hX dX9_order_114 119 117 (by decide) rfl (fun hc => ?_) (fun hc => ?_)
  · rw [if_neg hc] at h
    refine z_iload_n hX dX9_order_119 rfl 120 rfl ?_
    refine z_iload_n hX dX9_order_120 rfl 121 rfl ?_
    refine z_icmp_ge hX dX9_order_121 133 124 (by decide) rfl (fun hc => ?_) (fun hc => ?_)
    · rw [if_pos hc] at h
      refine z_bipush hX dX9_order_133 qb_m2 135 rfl ?_
      exact z_ireturn hX dX9_order_135 (zend_i h)
    · rw [if_neg hc] at h
      refine z_aload_n hX dX9_order_124 rfl 125 rfl ?_
      refine z_getF hX fX9_76 dX9_order_125 zs_0 (by decide) rfl 128 rfl ?_
      refine z_iload_n hX dX9_order_128 rfl 129 rfl ?_
      obtain ⟨hb, h5_⟩ := zgd h
      refine z_iald hX dX9_order_129 zs_3 (zok_in hb) 130 rfl ?_
      refine z_goto hX dX9_order_130 135 (by decide) ?_
      exact z_ireturn hX dX9_order_135 (zend_i h5_)
  · rw [if_pos hc] at h
    refine z_iload_n hX dX9_order_117 rfl 118 rfl ?_
    exact z_ireturn hX dX9_order_118 (zend_i h)
def gX9_order_J95 (x1 : Int32) (x2 : Int32) (x3 : Int32) (x4 : Int32) (rc58 : (Int32 × Int32 × zM) → Option (Int32 × zM)) (M : zM) : Option (Int32 × zM) :=
  zcIM (gX9_turnRow x2 M) (fun v9_ M10_ => (if v9_ = 0 then gX9_order_J112 x1 x2 x3 M10_
  else rc58 (x3, (x4 + 1), M10_)))
set_option maxRecDepth 100000 in
set_option maxHeartbeats 2000000 in
theorem aX9_order_J95 {G : zG} {X : zX} {x1 : Int32} {x2 : Int32} {x3 : Int32} {x4 : Int32} (hX : zC G X cX9_order 6 RX9 (some .int) 7)  {rc58 : (Int32 × Int32 × zM) → Option (Int32 × zM)} {M : zM} {res : (Int32 × zM)} (hrc58 : ∀ s : (Int32 × Int32 × zM), rc58 s = some res → Z G X (zQi res) 58 [some (.ref 0), some (.int x1), some (.int x2), some (.int s.1), some (.int s.2.1), none] [] s.2.2) (h : gX9_order_J95 x1 x2 x3 x4 rc58 M = some res) : Z G X (zQi res) 95 [some (.ref 0), some (.int x1), some (.int x2), some (.int x3), some (.int x4), none] [] M := by
  unfold gX9_order_J95 at h
  refine z_aload_n hX dX9_order_95 rfl 96 rfl ?_
  refine z_iload_n hX dX9_order_96 rfl 97 rfl ?_
  obtain ⟨v9_, M10_, hq, h11_⟩ := zcIM_of h
  refine z_callV hX vX9_turnRow lX9_324 dX9_order_97 zs_0 rfl (mX9_turnRow  hq) (by decide) rfl rfl (Nat.le_of_ble_eq_true rfl) 100 rfl (Qi.to (fun v' M' hv => ?_))
  cases hv
  refine z_if_ne hX dX9_order_100 106 103 (by decide) rfl (fun hc => ?_) (fun hc => ?_)
  · rw [if_neg hc] at h11_
    refine z_iinc (v := (x4 + 1)) hX dX9_order_106 rfl (by rfl) (by decide) 109 rfl ?_
    refine z_goto hX dX9_order_109 58 (by decide) ?_
    refine z_mask [true, true, true, true, true, false] ?_
    have hz := hrc58 _ h11_
    exact hz
  · rw [if_pos hc] at h11_
    refine z_goto hX dX9_order_103 112 (by decide) ?_
    refine z_mask [true, true, true, true, false, false] ?_
    have hz := aX9_order_J112 hX h11_
    exact hz
def gX9_order_L58 (x1 : Int32) (x2 : Int32) (rc58 : (Int32 × Int32 × zM) → Option (Int32 × zM)) (s : (Int32 × Int32 × zM)) : Option (Int32 × zM) :=
  (if 24 ≤ s.2.1 then gX9_order_J112 x1 x2 s.1 s.2.2
  else zcIM (gX9_worthOfRow x2 s.2.2) (fun v6_ M7_ => (if v6_ ≤ s.1 then gX9_order_J95 x1 x2 s.1 s.2.1 rc58 M7_
  else zg (zcpk 0 0 x2 4 4) (zlet (zcp M7_ 2 3 (0 : Int32).toNatClampNeg (0 : Int32).toNatClampNeg (x2 : Int32).toNatClampNeg) (fun M13_ => gX9_order_J95 x1 x2 v6_ s.2.1 rc58 M13_)))))
set_option maxRecDepth 100000 in
set_option maxHeartbeats 2000000 in
theorem aX9_order_L58 {G : zG} {X : zX} {x1 : Int32} {x2 : Int32} (hX : zC G X cX9_order 6 RX9 (some .int) 7)    {res : (Int32 × zM)}  : ∀ (N : Nat) (s : (Int32 × Int32 × zM)), zfix N (gX9_order_L58 x1 x2) s = some res → Z G X (zQi res) 58 [some (.ref 0), some (.int x1), some (.int x2), some (.int s.1), some (.int s.2.1), none] [] s.2.2 := by
  intro N
  induction N with
  | zero => intro s h; cases h
  | succ N hrc58 =>
    intro s h
    replace h : gX9_order_L58 x1 x2 (zfix N (gX9_order_L58 x1 x2)) s = some res := h
    unfold gX9_order_L58 at h
    refine z_iload hX dX9_order_58 rfl 60 rfl ?_
    refine z_bipush hX dX9_order_60 qb_24 62 rfl ?_
    refine z_icmp_ge hX dX9_order_62 112 65 (by decide) rfl (fun hc => ?_) (fun hc => ?_)
    · rw [if_pos hc] at h
      refine z_mask [true, true, true, true, false, false] ?_
      have hz := aX9_order_J112 hX h
      exact hz
    · rw [if_neg hc] at h
      refine z_aload_n hX dX9_order_65 rfl 66 rfl ?_
      refine z_iload_n hX dX9_order_66 rfl 67 rfl ?_
      obtain ⟨v6_, M7_, hq, h8_⟩ := zcIM_of h
      refine z_callV hX vX9_worthOfRow lX9_315 dX9_order_67 zs_0 rfl (mX9_worthOfRow  hq) (by decide) rfl rfl (Nat.le_of_ble_eq_true rfl) 70 rfl (Qi.to (fun v' M' hv => ?_))
      cases hv
      refine z_istore hX dX9_order_70 (by decide) 72 rfl ?_
      refine z_iload hX dX9_order_72 rfl 74 rfl ?_
      refine z_iload_n hX dX9_order_74 rfl 75 rfl ?_
      refine z_icmp_le hX dX9_order_75 95 78 (by decide) rfl (fun hc => ?_) (fun hc => ?_)
      · rw [if_pos hc] at h8_
        refine z_mask [true, true, true, true, true, false] ?_
        have hz := aX9_order_J95 hX hrc58 h8_
        exact hz
      · rw [if_neg hc] at h8_
        refine z_iload hX dX9_order_78 rfl 80 rfl ?_
        refine z_istore_n hX dX9_order_80 (by decide) 81 rfl ?_
        refine z_aload_n hX dX9_order_81 rfl 82 rfl ?_
        refine z_getF hX fX9_72 dX9_order_82 zs_0 (by decide) rfl 85 rfl ?_
        refine z_iconst hX dX9_order_85 qi_0 86 rfl ?_
        refine z_aload_n hX dX9_order_86 rfl 87 rfl ?_
        refine z_getF hX fX9_76 dX9_order_87 zs_0 (by decide) rfl 90 rfl ?_
        refine z_iconst hX dX9_order_90 qi_0 91 rfl ?_
        refine z_iload_n hX dX9_order_91 rfl 92 rfl ?_
        obtain ⟨hb, h12_⟩ := zgd h8_
        refine z_copy hX dX9_order_92 lX9_318 (by decide) zs_2 zs_3 (by decide) (by decide) hb (Nat.le_of_ble_eq_true rfl) 95 rfl ?_
        refine z_mem h12_ (fun M13_ h14_ => ?_)
        refine z_mask [true, true, true, true, true, false] ?_
        have hz := aX9_order_J95 hX hrc58 h14_
        exact hz
def gX9_order_L25 (x1 : Int32) (x2 : Int32) (rc25 : (Int32 × zM) → Option (Int32 × zM)) (s : (Int32 × zM)) : Option (Int32 × zM) :=
  (if x2 ≤ s.1 then zfix zFu (gX9_order_L58 x1 x2) ((-1), 0, s.2)
  else zg (zok s.1 6) (zcV (gX9_putInOrder 2 4 s.1 (s.2.1 56 (s.1 : Int32).toNatClampNeg) s.2) (fun M16_ => rc25 ((s.1 + 1), M16_))))
set_option maxRecDepth 100000 in
set_option maxHeartbeats 2000000 in
theorem aX9_order_L25 {G : zG} {X : zX} {x1 : Int32} {x2 : Int32} (hX : zC G X cX9_order 6 RX9 (some .int) 7)    {res : (Int32 × zM)}  : ∀ (N : Nat) (s : (Int32 × zM)), zfix N (gX9_order_L25 x1 x2) s = some res → Z G X (zQi res) 25 [some (.ref 0), some (.int x1), some (.int x2), some (.int s.1), none, none] [] s.2 := by
  intro N
  induction N with
  | zero => intro s h; cases h
  | succ N hrc25 =>
    intro s h
    replace h : gX9_order_L25 x1 x2 (zfix N (gX9_order_L25 x1 x2)) s = some res := h
    unfold gX9_order_L25 at h
    refine z_iload_n hX dX9_order_25 rfl 26 rfl ?_
    refine z_iload_n hX dX9_order_26 rfl 27 rfl ?_
    refine z_icmp_ge hX dX9_order_27 53 30 (by decide) rfl (fun hc => ?_) (fun hc => ?_)
    · rw [if_pos hc] at h
      refine z_iconst hX dX9_order_53 qi_m1 54 rfl ?_
      refine z_istore_n hX dX9_order_54 (by decide) 55 rfl ?_
      refine z_iconst hX dX9_order_55 qi_0 56 rfl ?_
      refine z_istore hX dX9_order_56 (by decide) 58 rfl ?_
      refine z_mask [true, true, true, true, true, false] ?_
      have hz := aX9_order_L58 hX _ _ h
      exact hz
    · rw [if_neg hc] at h
      refine z_aload_n hX dX9_order_30 rfl 31 rfl ?_
      refine z_getF hX fX9_72 dX9_order_31 zs_0 (by decide) rfl 34 rfl ?_
      refine z_iload_n hX dX9_order_34 rfl 35 rfl ?_
      refine z_aload_n hX dX9_order_35 rfl 36 rfl ?_
      refine z_getF hX fX9_41 dX9_order_36 zs_0 (by decide) rfl 39 rfl ?_
      refine z_getF hX fX9_312 dX9_order_39 zs_55 (by decide) rfl 42 rfl ?_
      refine z_iload_n hX dX9_order_42 rfl 43 rfl ?_
      obtain ⟨hb, h15_⟩ := zgd h
      refine z_iald hX dX9_order_43 zs_56 (zok_in hb) 44 rfl ?_
      obtain ⟨M16_, hq, h17_⟩ := zcV_of h15_
      refine z_callS hX vX9_putInOrder rfl lX9_301 dX9_order_44 (mX9_putInOrder zs_2 (by decide) hq) (by decide) rfl rfl (Nat.le_of_ble_eq_true rfl) 47 rfl (Qv.to (fun M' hv => ?_))
      subst hv
      refine z_iinc (v := (s.1 + 1)) hX dX9_order_47 rfl (by rfl) (by decide) 50 rfl ?_
      refine z_goto hX dX9_order_50 25 (by decide) ?_
      refine z_mask [true, true, true, true, false, false] ?_
      have hz := hrc25 _ h17_
      exact hz
def gX9_order (x1 : Int32) (M : zM) : Option (Int32 × zM) :=
  (if x1 < 0 then some ((-1), M)
  else (if x1 ≤ 4 then zgP (M.2.2 0 2) (fun p1_ => zlet ((if (M.1 p1_ 0) < 4 then (M.1 p1_ 0) else 4)) (fun x3_ => zfix zFu (gX9_order_L25 x1 x3_) (0, M)))
  else some ((-1), M)))
set_option maxRecDepth 100000 in
set_option maxHeartbeats 2000000 in
theorem mX9_order {G : zG} {x1 : Int32} {M : zM}  {res : (Int32 × zM)} (h : gX9_order x1 M = some res) : Ct G 7 tX9_order [.ref 0, .int x1] M (zQi res) := by
  unfold gX9_order at h
  refine Ct.of (y := yX9_order) rfl plX9 (Nat.le_of_ble_eq_true rfl) (fun X hX => ?_)
  replace hX : zC G X cX9_order 6 RX9 (some .int) 7 := hX
  show Z G X _ 0 [some (.ref 0), some (.int x1), none, none, none, none] [] M
  refine z_iload_n hX dX9_order_0 rfl 1 rfl ?_
  refine z_if_lt hX dX9_order_1 9 4 (by decide) rfl (fun hc => ?_) (fun hc => ?_)
  · rw [if_pos hc] at h
    refine z_iconst hX dX9_order_9 qi_m1 10 rfl ?_
    exact z_ireturn hX dX9_order_10 (zend_i h)
  · rw [if_neg hc] at h
    refine z_iload_n hX dX9_order_4 rfl 5 rfl ?_
    refine z_iconst hX dX9_order_5 qi_4 6 rfl ?_
    refine z_icmp_le hX dX9_order_6 11 9 (by decide) rfl (fun hc => ?_) (fun hc => ?_)
    · rw [if_pos hc] at h
      refine z_iconst hX dX9_order_11 qi_4 12 rfl ?_
      refine z_aload_n hX dX9_order_12 rfl 13 rfl ?_
      obtain ⟨p1_, hm, hp1_, h2_⟩ := zgP_of h
      refine z_getR hX fX9_18 dX9_order_13 zs_0 (by decide) rfl hm 16 rfl ?_
      refine z_getI hX fX9_116 dX9_order_16 (zsP0 hp1_) (by decide) rfl 19 rfl ?_
      refine z_min hX dX9_order_19 lX9_250 (by decide) (Nat.le_of_ble_eq_true rfl) 22 rfl ?_
      refine z_topi h2_ (fun x3_ h4_ => ?_)
      refine z_istore_n hX dX9_order_22 (by decide) 23 rfl ?_
      refine z_iconst hX dX9_order_23 qi_0 24 rfl ?_
      refine z_istore_n hX dX9_order_24 (by decide) 25 rfl ?_
      refine z_mask [true, true, true, true, false, false] ?_
      have hz := aX9_order_L25 hX _ _ h4_
      exact hz
    · rw [if_neg hc] at h
      refine z_iconst hX dX9_order_9 qi_m1 10 rfl ?_
      exact z_ireturn hX dX9_order_10 (zend_i h)
def gX9_gain_J43 (x1 : Int32) (y0 : Int32) (M : zM) : Option Int32 :=
  zg (zok x1 6) (some ((M.1 57 (x1 : Int32).toNatClampNeg) - y0))
set_option maxRecDepth 100000 in
set_option maxHeartbeats 2000000 in
theorem aX9_gain_J43 {G : zG} {X : zX} {x1 : Int32} {y0 : Int32} (hX : zC G X cX9_gain 5 RX9 (some .int) 2)   {M : zM} {res : Int32}  (h : gX9_gain_J43 x1 y0 M = some res) : Z G X (zQip M res) 43 [some (.ref 0), some (.int x1), none, none, none] [.int y0] M := by
  unfold gX9_gain_J43 at h
  refine z_istore hX dX9_gain_43 (by decide) 45 rfl ?_
  refine z_aload_n hX dX9_gain_45 rfl 46 rfl ?_
  refine z_getF hX fX9_41 dX9_gain_46 zs_0 (by decide) rfl 49 rfl ?_
  refine z_getF hX fX9_143 dX9_gain_49 zs_55 (by decide) rfl 52 rfl ?_
  refine z_iload_n hX dX9_gain_52 rfl 53 rfl ?_
  obtain ⟨hb, h7_⟩ := zgd h
  refine z_iald hX dX9_gain_53 zs_57 (zok_in hb) 54 rfl ?_
  refine z_iload hX dX9_gain_54 rfl 56 rfl ?_
  refine z_isub hX dX9_gain_56 57 rfl ?_
  exact z_ireturn hX dX9_gain_57 (zend_ip h7_)
def gX9_gain (x1 : Int32) (x2 : Int32) (x3 : Int32) (M : zM) : Option Int32 :=
  zcI (gX9_isMan x1 M) (fun v1_ => (if v1_ = 0 then some 0
  else (if x2 = 0 then (if x3 = 0 then zgP (M.2.2 0 2) (fun p8_ => zg (zok x1 6) (gX9_gain_J43 x1 ((M.1 (p8_ + 2) (x1 : Int32).toNatClampNeg) / 4) M))
  else zgP (M.2.2 0 2) (fun p4_ => zg (zok x1 6) (gX9_gain_J43 x1 ((M.1 (p4_ + 2) (x1 : Int32).toNatClampNeg) / 2) M)))
  else (if x3 = 0 then zg (zok x1 6) (some (-((M.1 57 (x1 : Int32).toNatClampNeg) / 2)))
  else some 0))))
set_option maxRecDepth 100000 in
set_option maxHeartbeats 2000000 in
theorem mX9_gain {G : zG} {x1 : Int32} {x2 : Int32} {x3 : Int32} {M : zM}  {res : Int32} (h : gX9_gain x1 x2 x3 M = some res) : Ct G 2 tX9_gain [.ref 0, .int x1, .int x2, .int x3] M (zQip M res) := by
  unfold gX9_gain at h
  refine Ct.of (y := yX9_gain) rfl plX9 (Nat.le_of_ble_eq_true rfl) (fun X hX => ?_)
  replace hX : zC G X cX9_gain 5 RX9 (some .int) 2 := hX
  show Z G X _ 0 [some (.ref 0), some (.int x1), some (.int x2), some (.int x3), none] [] M
  refine z_aload_n hX dX9_gain_0 rfl 1 rfl ?_
  refine z_iload_n hX dX9_gain_1 rfl 2 rfl ?_
  obtain ⟨v1_, hq, h2_⟩ := zcI_of h
  refine z_callV hX vX9_isMan lX9_129 dX9_gain_2 zs_0 rfl (mX9_isMan  hq) (by decide) rfl rfl (Nat.le_of_ble_eq_true rfl) 5 rfl (Qi.to (fun v' M' hv => ?_))
  obtain ⟨rfl, rfl⟩ := hv
  refine z_if_ne hX dX9_gain_5 10 8 (by decide) rfl (fun hc => ?_) (fun hc => ?_)
  · rw [if_neg hc] at h2_
    refine z_iload_n hX dX9_gain_10 rfl 11 rfl ?_
    refine z_if_ne hX dX9_gain_11 58 14 (by decide) rfl (fun hc => ?_) (fun hc => ?_)
    · rw [if_neg hc] at h2_
      refine z_iload_n hX dX9_gain_58 rfl 59 rfl ?_
      refine z_if_ne hX dX9_gain_59 77 62 (by decide) rfl (fun hc => ?_) (fun hc => ?_)
      · rw [if_neg hc] at h2_
        refine z_iconst hX dX9_gain_77 qi_0 78 rfl ?_
        exact z_ireturn hX dX9_gain_78 (zend_ip h2_)
      · rw [if_pos hc] at h2_
        refine z_aload_n hX dX9_gain_62 rfl 63 rfl ?_
        refine z_getF hX fX9_41 dX9_gain_63 zs_0 (by decide) rfl 66 rfl ?_
        refine z_getF hX fX9_143 dX9_gain_66 zs_55 (by decide) rfl 69 rfl ?_
        refine z_iload_n hX dX9_gain_69 rfl 70 rfl ?_
        obtain ⟨hb, h3_⟩ := zgd h2_
        refine z_iald hX dX9_gain_70 zs_57 (zok_in hb) 71 rfl ?_
        refine z_iconst hX dX9_gain_71 qi_2 72 rfl ?_
        refine z_idiv hX dX9_gain_72 (by decide) 73 rfl ?_
        refine z_ineg hX dX9_gain_73 74 rfl ?_
        refine z_goto hX dX9_gain_74 78 (by decide) ?_
        exact z_ireturn hX dX9_gain_78 (zend_ip h3_)
    · rw [if_pos hc] at h2_
      refine z_iload_n hX dX9_gain_14 rfl 15 rfl ?_
      refine z_if_ne hX dX9_gain_15 32 18 (by decide) rfl (fun hc => ?_) (fun hc => ?_)
      · rw [if_neg hc] at h2_
        refine z_aload_n hX dX9_gain_32 rfl 33 rfl ?_
        obtain ⟨p4_, hm, hp4_, h5_⟩ := zgP_of h2_
        refine z_getR hX fX9_18 dX9_gain_33 zs_0 (by decide) rfl hm 36 rfl ?_
        refine z_getF hX fX9_140 dX9_gain_36 (zsP0 hp4_) (by decide) rfl 39 rfl ?_
        refine z_iload_n hX dX9_gain_39 rfl 40 rfl ?_
        obtain ⟨hb, h6_⟩ := zgd h5_
        refine z_iald hX dX9_gain_40 (zsP2 hp4_) (zok_in hb) 41 rfl ?_
        refine z_iconst hX dX9_gain_41 qi_2 42 rfl ?_
        refine z_idiv hX dX9_gain_42 (by decide) 43 rfl ?_
        refine z_mask [true, true, false, false, false] ?_
        have hz := aX9_gain_J43 hX h6_
        exact hz
      · rw [if_pos hc] at h2_
        refine z_aload_n hX dX9_gain_18 rfl 19 rfl ?_
        obtain ⟨p8_, hm, hp8_, h9_⟩ := zgP_of h2_
        refine z_getR hX fX9_18 dX9_gain_19 zs_0 (by decide) rfl hm 22 rfl ?_
        refine z_getF hX fX9_140 dX9_gain_22 (zsP0 hp8_) (by decide) rfl 25 rfl ?_
        refine z_iload_n hX dX9_gain_25 rfl 26 rfl ?_
        obtain ⟨hb, h10_⟩ := zgd h9_
        refine z_iald hX dX9_gain_26 (zsP2 hp8_) (zok_in hb) 27 rfl ?_
        refine z_iconst hX dX9_gain_27 qi_4 28 rfl ?_
        refine z_idiv hX dX9_gain_28 (by decide) 29 rfl ?_
        refine z_goto hX dX9_gain_29 43 (by decide) ?_
        refine z_mask [true, true, false, false, false] ?_
        have hz := aX9_gain_J43 hX h10_
        exact hz
  · rw [if_pos hc] at h2_
    refine z_iconst hX dX9_gain_8 qi_0 9 rfl ?_
    exact z_ireturn hX dX9_gain_9 (zend_ip h2_)
