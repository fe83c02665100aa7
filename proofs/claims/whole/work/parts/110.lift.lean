def gX10_isWord (x1 : Int32) (M : zM) : Option Int32 :=
  (if (M.1 98 26) = 0 then (if (M.1 98 24) = 0 then (if (M.1 98 25) = x1 then some 1
  else some 0)
  else some 0)
  else some 0)
set_option maxRecDepth 100000 in
set_option maxHeartbeats 2000000 in
theorem mX10_isWord {G : zG} {x1 : Int32} {M : zM}  {res : Int32} (h : gX10_isWord x1 M = some res) : Ct G 1 tX10_isWord [.ref 98, .int x1] M (zQip M res) := by
  unfold gX10_isWord at h
  refine Ct.of (y := yX10_isWord) rfl plX10 (Nat.le_of_ble_eq_true rfl) (fun X hX => ?_)
  replace hX : zC G X cX10_isWord 2 RX10 (some .boolean) 1 := hX
  show Z G X _ 0 [some (.ref 98), some (.int x1)] [] M
  refine z_aload_n hX dX10_isWord_0 rfl 1 rfl ?_
  refine z_getI hX fX10_208 dX10_isWord_1 zs_98 (by decide) rfl 4 rfl ?_
  refine z_if_ne hX dX10_isWord_4 26 7 (by decide) rfl (fun hc => ?_) (fun hc => ?_)
  · rw [if_neg hc] at h
    refine z_iconst hX dX10_isWord_26 qi_0 27 rfl ?_
    exact z_zreturn hX dX10_isWord_27 (by decide) (zend_ip h)
  · rw [if_pos hc] at h
    refine z_aload_n hX dX10_isWord_7 rfl 8 rfl ?_
    refine z_getI hX fX10_173 dX10_isWord_8 zs_98 (by decide) rfl 11 rfl ?_
    refine z_if_ne hX dX10_isWord_11 26 14 (by decide) rfl (fun hc => ?_) (fun hc => ?_)
    · rw [if_neg hc] at h
      refine z_iconst hX dX10_isWord_26 qi_0 27 rfl ?_
      exact z_zreturn hX dX10_isWord_27 (by decide) (zend_ip h)
    · rw [if_pos hc] at h
      refine z_aload_n hX dX10_isWord_14 rfl 15 rfl ?_
      refine z_getI hX fX10_183 dX10_isWord_15 zs_98 (by decide) rfl 18 rfl ?_
      refine z_iload_n hX dX10_isWord_18 rfl 19 rfl ?_
      refine z_icmp_ne hX dX10_isWord_19 26 22 (by decide) rfl (fun hc => ?_) (fun hc => ?_)
      · rw [if_neg hc] at h
        refine z_iconst hX dX10_isWord_26 qi_0 27 rfl ?_
        exact z_zreturn hX dX10_isWord_27 (by decide) (zend_ip h)
      · rw [if_pos hc] at h
        refine z_iconst hX dX10_isWord_22 qi_1 23 rfl ?_
        refine z_goto hX dX10_isWord_23 27 (by decide) ?_
        exact z_zreturn hX dX10_isWord_27 (by decide) (zend_ip h)
def gX10_knot (M : zM) : Option zM :=
  (if (M.1 98 26) = 0 then (if (M.1 98 31) = 64 then zcV (gX10_wrong 2 M) (fun M3_ => some M3_)
  else zlet (zI M 98 31 ((M.1 98 31) + 1)) (fun M1_ => some M1_))
  else some M)
set_option maxRecDepth 100000 in
set_option maxHeartbeats 2000000 in
theorem mX10_knot {G : zG}  {M : zM}  {res : zM} (h : gX10_knot M = some res) : Ct G 2 tX10_knot [.ref 98] M (zQv res) := by
  unfold gX10_knot at h
  refine Ct.of (y := yX10_knot) rfl plX10 (Nat.le_of_ble_eq_true rfl) (fun X hX => ?_)
  replace hX : zC G X cX10_knot 1 RX10 none 2 := hX
  show Z G X _ 0 [some (.ref 98)] [] M
  refine z_aload_n hX dX10_knot_0 rfl 1 rfl ?_
  refine z_getI hX fX10_208 dX10_knot_1 zs_98 (by decide) rfl 4 rfl ?_
  refine z_if_eq hX dX10_knot_4 8 7 (by decide) rfl (fun hc => ?_) (fun hc => ?_)
  · rw [if_pos hc] at h
    refine z_aload_n hX dX10_knot_8 rfl 9 rfl ?_
    refine z_getI hX fX10_264 dX10_knot_9 zs_98 (by decide) rfl 12 rfl ?_
    refine z_bipush hX dX10_knot_12 qb_64 14 rfl ?_
    refine z_icmp_ne hX dX10_knot_14 25 17 (by decide) rfl (fun hc => ?_) (fun hc => ?_)
    · rw [if_neg hc] at h
      refine z_aload_n hX dX10_knot_25 rfl 26 rfl ?_
      refine z_dup hX dX10_knot_26 rfl 27 rfl ?_
      refine z_getI hX fX10_264 dX10_knot_27 zs_98 (by decide) rfl 30 rfl ?_
      refine z_iconst hX dX10_knot_30 qi_1 31 rfl ?_
      refine z_iadd hX dX10_knot_31 32 rfl ?_
      refine z_putI hX pX10_264 dX10_knot_32 zs_98 (by decide) rfl 35 rfl ?_
      refine z_mem h (fun M1_ h2_ => ?_)
      exact z_return hX dX10_knot_35 (zend_v h2_)
    · rw [if_pos hc] at h
      refine z_aload_n hX dX10_knot_17 rfl 18 rfl ?_
      refine z_iconst hX dX10_knot_18 qi_2 19 rfl ?_
      obtain ⟨M3_, hq, h4_⟩ := zcV_of h
      refine z_callV hX vX10_wrong lX10_217 dX10_knot_19 zs_98 rfl (mX10_wrong  hq) (by decide) rfl rfl (Nat.le_of_ble_eq_true rfl) 22 rfl (Qv.to (fun M' hv => ?_))
      subst hv
      refine z_goto hX dX10_knot_22 35 (by decide) ?_
      exact z_return hX dX10_knot_35 (zend_v h4_)
  · rw [if_neg hc] at h
    exact z_return hX dX10_knot_7 (zend_v h)
def gX10_puts (x1 : Int32) (x2 : Int32) (M : zM) : Option zM :=
  (if (M.1 98 26) = 0 then zcI (gX10_fresher 8 M) (fun v1_ => zg (zok (64 + v1_) 128) (zlet (zI M 114 ((64 + v1_) : Int32).toNatClampNeg x1) (fun M4_ => zcI (gX10_fresher 8 M4_) (fun v6_ => zg (zok (64 + v6_) 128) (zlet (zI M4_ 115 ((64 + v6_) : Int32).toNatClampNeg x2) (fun M9_ => zcI (gX10_fresher 8 M9_) (fun v11_ => zcV (gX10_reads 8 (v11_ + 1) M9_) (fun M13_ => some M13_))))))))
  else some M)
set_option maxRecDepth 100000 in
set_option maxHeartbeats 2000000 in
theorem mX10_puts {G : zG} {x1 : Int32} {x2 : Int32} {M : zM}  {res : zM} (h : gX10_puts x1 x2 M = some res) : Ct G 2 tX10_puts [.ref 98, .int x1, .int x2] M (zQv res) := by
  unfold gX10_puts at h
  refine Ct.of (y := yX10_puts) rfl plX10 (Nat.le_of_ble_eq_true rfl) (fun X hX => ?_)
  replace hX : zC G X cX10_puts 3 RX10 none 2 := hX
  show Z G X _ 0 [some (.ref 98), some (.int x1), some (.int x2)] [] M
  refine z_aload_n hX dX10_puts_0 rfl 1 rfl ?_
  refine z_getI hX fX10_208 dX10_puts_1 zs_98 (by decide) rfl 4 rfl ?_
  refine z_if_eq hX dX10_puts_4 8 7 (by decide) rfl (fun hc => ?_) (fun hc => ?_)
  · rw [if_pos hc] at h
    refine z_aload_n hX dX10_puts_8 rfl 9 rfl ?_
    refine z_getF hX fX10_55 dX10_puts_9 zs_98 (by decide) rfl 12 rfl ?_
    refine z_bipush hX dX10_puts_12 qb_64 14 rfl ?_
    refine z_aload_n hX dX10_puts_14 rfl 15 rfl ?_
    refine z_bipush hX dX10_puts_15 qb_8 17 rfl ?_
    obtain ⟨v1_, hq, h2_⟩ := zcI_of h
    refine z_callV hX vX10_fresher lX10_224 dX10_puts_17 zs_98 rfl (mX10_fresher  hq) (by decide) rfl rfl (Nat.le_of_ble_eq_true rfl) 20 rfl (Qi.to (fun v' M' hv => ?_))
    obtain ⟨rfl, rfl⟩ := hv
    refine z_iadd hX dX10_puts_20 21 rfl ?_
    refine z_iload_n hX dX10_puts_21 rfl 22 rfl ?_
    obtain ⟨hb, h3_⟩ := zgd h2_
    refine z_iast hX dX10_puts_22 zs_114 (zok_in hb) 23 rfl ?_
    refine z_mem h3_ (fun M4_ h5_ => ?_)
    refine z_aload_n hX dX10_puts_23 rfl 24 rfl ?_
    refine z_getF hX fX10_58 dX10_puts_24 zs_98 (by decide) rfl 27 rfl ?_
    refine z_bipush hX dX10_puts_27 qb_64 29 rfl ?_
    refine z_aload_n hX dX10_puts_29 rfl 30 rfl ?_
    refine z_bipush hX dX10_puts_30 qb_8 32 rfl ?_
    obtain ⟨v6_, hq, h7_⟩ := zcI_of h5_
    refine z_callV hX vX10_fresher lX10_224 dX10_puts_32 zs_98 rfl (mX10_fresher  hq) (by decide) rfl rfl (Nat.le_of_ble_eq_true rfl) 35 rfl (Qi.to (fun v' M' hv => ?_))
    obtain ⟨rfl, rfl⟩ := hv
    refine z_iadd hX dX10_puts_35 36 rfl ?_
    refine z_iload_n hX dX10_puts_36 rfl 37 rfl ?_
    obtain ⟨hb, h8_⟩ := zgd h7_
    refine z_iast hX dX10_puts_37 zs_115 (zok_in hb) 38 rfl ?_
    refine z_mem h8_ (fun M9_ h10_ => ?_)
    refine z_aload_n hX dX10_puts_38 rfl 39 rfl ?_
    refine z_bipush hX dX10_puts_39 qb_8 41 rfl ?_
    refine z_aload_n hX dX10_puts_41 rfl 42 rfl ?_
    refine z_bipush hX dX10_puts_42 qb_8 44 rfl ?_
    obtain ⟨v11_, hq, h12_⟩ := zcI_of h10_
    refine z_callV hX vX10_fresher lX10_224 dX10_puts_44 zs_98 rfl (mX10_fresher  hq) (by decide) rfl rfl (Nat.le_of_ble_eq_true rfl) 47 rfl (Qi.to (fun v' M' hv => ?_))
    obtain ⟨rfl, rfl⟩ := hv
    refine z_iconst hX dX10_puts_47 qi_1 48 rfl ?_
    refine z_iadd hX dX10_puts_48 49 rfl ?_
    obtain ⟨M13_, hq, h14_⟩ := zcV_of h12_
    refine z_callV hX vX10_reads lX10_245 dX10_puts_49 zs_98 rfl (mX10_reads  hq) (by decide) rfl rfl (Nat.le_of_ble_eq_true rfl) 52 rfl (Qv.to (fun M' hv => ?_))
    subst hv
    exact z_return hX dX10_puts_52 (zend_v h14_)
  · rw [if_neg hc] at h
    exact z_return hX dX10_puts_7 (zend_v h)
def gX10_expression_L4 (F : Nat → zM → Option zM) (rc4 : zM → Option zM) (s : zM) : Option zM :=
  zcI (gX10_isWord 12 s) (fun v3_ => (if v3_ = 0 then some s
  else zcV (gX10_knot s) (fun M5_ => zcV (gX10_goOn M5_) (fun M7_ => zcV (F 1 M7_) (fun M9_ => zcV (gX10_puts 2 262 M9_) (fun M11_ => rc4 M11_))))))
set_option maxRecDepth 100000 in
set_option maxHeartbeats 2000000 in
theorem aX10_expression_L4 {G : zG} {X : zX} {k : Nat} {F : Nat → zM → Option zM} (hX : zC G X cX10_expression 1 RX10 none (8 + (k + 1))) (hF0 : ∀  (M res : zM), F 0  M = some res → Ct G (8 + k) tX10_expression [.ref 98] M (zQv res)) (hF1 : ∀  (M res : zM), F 1  M = some res → Ct G (8 + k) tX10_conjunction [.ref 98] M (zQv res)) (hF2 : ∀  (M res : zM), F 2  M = some res → Ct G (8 + k) tX10_negation [.ref 98] M (zQv res)) (hF3 : ∀  (M res : zM), F 3  M = some res → Ct G (8 + k) tX10_sum [.ref 98] M (zQv res)) (hF4 : ∀  (M res : zM), F 4  M = some res → Ct G (8 + k) tX10_product [.ref 98] M (zQv res)) (hF5 : ∀  (M res : zM), F 5  M = some res → Ct G (8 + k) tX10_primary [.ref 98] M (zQv res))   {res : zM}  : ∀ (N : Nat) (s : zM), zfix N (gX10_expression_L4 F) s = some res → Z G X (zQv res) 4 [some (.ref 98)] [] s := by
  intro N
  induction N with
  | zero => intro s h; cases h
  | succ N hrc4 =>
    intro s h
    replace h : gX10_expression_L4 F (zfix N (gX10_expression_L4 F)) s = some res := h
    unfold gX10_expression_L4 at h
    refine z_aload_n hX dX10_expression_4 rfl 5 rfl ?_
    refine z_bipush hX dX10_expression_5 qb_12 7 rfl ?_
    obtain ⟨v3_, hq, h4_⟩ := zcI_of h
    refine z_callV hX vX10_isWord lX10_270 dX10_expression_7 zs_98 rfl (mX10_isWord  hq) (by omega) rfl rfl (Nat.le_of_ble_eq_true rfl) 10 rfl (Qi.to (fun v' M' hv => ?_))
    obtain ⟨rfl, rfl⟩ := hv
    refine z_if_eq hX dX10_expression_10 36 13 (by decide) rfl (fun hc => ?_) (fun hc => ?_)
    · rw [if_pos hc] at h4_
      exact z_return hX dX10_expression_36 (zend_v h4_)
    · rw [if_neg hc] at h4_
      refine z_aload_n hX dX10_expression_13 rfl 14 rfl ?_
      obtain ⟨M5_, hq, h6_⟩ := zcV_of h4_
      refine z_callV hX vX10_knot lX10_273 dX10_expression_14 zs_98 rfl (mX10_knot  hq) (by omega) rfl rfl (Nat.le_of_ble_eq_true rfl) 17 rfl (Qv.to (fun M' hv => ?_))
      subst hv
      refine z_aload_n hX dX10_expression_17 rfl 18 rfl ?_
      obtain ⟨M7_, hq, h8_⟩ := zcV_of h6_
      refine z_callV hX vX10_goOn lX10_228 dX10_expression_18 zs_98 rfl (mX10_goOn  hq) (by omega) rfl rfl (Nat.le_of_ble_eq_true rfl) 21 rfl (Qv.to (fun M' hv => ?_))
      subst hv
      refine z_aload_n hX dX10_expression_21 rfl 22 rfl ?_
      obtain ⟨M9_, hq, h10_⟩ := zcV_of h8_
      refine z_callV hX vX10_conjunction lX10_267 dX10_expression_22 zs_98 rfl (hF1 _ _ hq) (by omega) rfl rfl (Nat.le_of_ble_eq_true rfl) 25 rfl (Qv.to (fun M' hv => ?_))
      subst hv
      refine z_aload_n hX dX10_expression_25 rfl 26 rfl ?_
      refine z_iconst hX dX10_expression_26 qi_2 27 rfl ?_
      refine z_sipush hX dX10_expression_27 qs_262 30 rfl ?_
      obtain ⟨M11_, hq, h12_⟩ := zcV_of h10_
      refine z_callV hX vX10_puts lX10_276 dX10_expression_30 zs_98 rfl (mX10_puts  hq) (by omega) rfl rfl (Nat.le_of_ble_eq_true rfl) 33 rfl (Qv.to (fun M' hv => ?_))
      subst hv
      refine z_goto hX dX10_expression_33 4 (by decide) ?_
      refine z_mask [true] ?_
      have hz := hrc4 _ h12_
      exact hz
def bX10_expression (F : Nat → zM → Option zM) (M : zM) : Option zM :=
  zcV (F 1 M) (fun M1_ => zfix zFu (gX10_expression_L4 F) M1_)
set_option maxRecDepth 100000 in
set_option maxHeartbeats 2000000 in
theorem nX10_expression {G : zG} {k : Nat} {F : Nat → zM → Option zM}  {M : zM} (hF0 : ∀  (M res : zM), F 0  M = some res → Ct G (8 + k) tX10_expression [.ref 98] M (zQv res)) (hF1 : ∀  (M res : zM), F 1  M = some res → Ct G (8 + k) tX10_conjunction [.ref 98] M (zQv res)) (hF2 : ∀  (M res : zM), F 2  M = some res → Ct G (8 + k) tX10_negation [.ref 98] M (zQv res)) (hF3 : ∀  (M res : zM), F 3  M = some res → Ct G (8 + k) tX10_sum [.ref 98] M (zQv res)) (hF4 : ∀  (M res : zM), F 4  M = some res → Ct G (8 + k) tX10_product [.ref 98] M (zQv res)) (hF5 : ∀  (M res : zM), F 5  M = some res → Ct G (8 + k) tX10_primary [.ref 98] M (zQv res)) {res : zM} (h : bX10_expression F M = some res) : Ct G (8 + (k + 1)) tX10_expression [.ref 98] M (zQv res) := by
  unfold bX10_expression at h
  refine Ct.of (y := yX10_expression) rfl plX10 (Nat.le_of_ble_eq_true rfl) (fun X hX => ?_)
  replace hX : zC G X cX10_expression 1 RX10 none (8 + (k + 1)) := hX
  show Z G X _ 0 [some (.ref 98)] [] M
  refine z_aload_n hX dX10_expression_0 rfl 1 rfl ?_
  obtain ⟨M1_, hq, h2_⟩ := zcV_of h
  refine z_callV hX vX10_conjunction lX10_267 dX10_expression_1 zs_98 rfl (hF1 _ _ hq) (by omega) rfl rfl (Nat.le_of_ble_eq_true rfl) 4 rfl (Qv.to (fun M' hv => ?_))
  subst hv
  refine z_mask [true] ?_
  have hz := aX10_expression_L4 hX hF0 hF1 hF2 hF3 hF4 hF5 _ _ h2_
  exact hz
def gX10_conjunction_L4 (F : Nat → zM → Option zM) (rc4 : zM → Option zM) (s : zM) : Option zM :=
  zcI (gX10_isWord 13 s) (fun v3_ => (if v3_ = 0 then some s
  else zcV (gX10_knot s) (fun M5_ => zcV (gX10_goOn M5_) (fun M7_ => zcV (F 2 M7_) (fun M9_ => zcV (gX10_puts 2 261 M9_) (fun M11_ => rc4 M11_))))))
set_option maxRecDepth 100000 in
set_option maxHeartbeats 2000000 in
theorem aX10_conjunction_L4 {G : zG} {X : zX} {k : Nat} {F : Nat → zM → Option zM} (hX : zC G X cX10_conjunction 1 RX10 none (8 + (k + 1))) (hF0 : ∀  (M res : zM), F 0  M = some res → Ct G (8 + k) tX10_expression [.ref 98] M (zQv res)) (hF1 : ∀  (M res : zM), F 1  M = some res → Ct G (8 + k) tX10_conjunction [.ref 98] M (zQv res)) (hF2 : ∀  (M res : zM), F 2  M = some res → Ct G (8 + k) tX10_negation [.ref 98] M (zQv res)) (hF3 : ∀  (M res : zM), F 3  M = some res → Ct G (8 + k) tX10_sum [.ref 98] M (zQv res)) (hF4 : ∀  (M res : zM), F 4  M = some res → Ct G (8 + k) tX10_product [.ref 98] M (zQv res)) (hF5 : ∀  (M res : zM), F 5  M = some res → Ct G (8 + k) tX10_primary [.ref 98] M (zQv res))   {res : zM}  : ∀ (N : Nat) (s : zM), zfix N (gX10_conjunction_L4 F) s = some res → Z G X (zQv res) 4 [some (.ref 98)] [] s := by
  intro N
  induction N with
  | zero => intro s h; cases h
  | succ N hrc4 =>
    intro s h
    replace h : gX10_conjunction_L4 F (zfix N (gX10_conjunction_L4 F)) s = some res := h
    unfold gX10_conjunction_L4 at h
    refine z_aload_n hX dX10_conjunction_4 rfl 5 rfl ?_
    refine z_bipush hX dX10_conjunction_5 qb_13 7 rfl ?_
    obtain ⟨v3_, hq, h4_⟩ := zcI_of h
    refine z_callV hX vX10_isWord lX10_270 dX10_conjunction_7 zs_98 rfl (mX10_isWord  hq) (by omega) rfl rfl (Nat.le_of_ble_eq_true rfl) 10 rfl (Qi.to (fun v' M' hv => ?_))
    obtain ⟨rfl, rfl⟩ := hv
    refine z_if_eq hX dX10_conjunction_10 36 13 (by decide) rfl (fun hc => ?_) (fun hc => ?_)
    · rw [if_pos hc] at h4_
      exact z_return hX dX10_conjunction_36 (zend_v h4_)
    · rw [if_neg hc] at h4_
      refine z_aload_n hX dX10_conjunction_13 rfl 14 rfl ?_
      obtain ⟨M5_, hq, h6_⟩ := zcV_of h4_
      refine z_callV hX vX10_knot lX10_273 dX10_conjunction_14 zs_98 rfl (mX10_knot  hq) (by omega) rfl rfl (Nat.le_of_ble_eq_true rfl) 17 rfl (Qv.to (fun M' hv => ?_))
      subst hv
      refine z_aload_n hX dX10_conjunction_17 rfl 18 rfl ?_
      obtain ⟨M7_, hq, h8_⟩ := zcV_of h6_
      refine z_callV hX vX10_goOn lX10_228 dX10_conjunction_18 zs_98 rfl (mX10_goOn  hq) (by omega) rfl rfl (Nat.le_of_ble_eq_true rfl) 21 rfl (Qv.to (fun M' hv => ?_))
      subst hv
      refine z_aload_n hX dX10_conjunction_21 rfl 22 rfl ?_
      obtain ⟨M9_, hq, h10_⟩ := zcV_of h8_
      refine z_callV hX vX10_negation lX10_279 dX10_conjunction_22 zs_98 rfl (hF2 _ _ hq) (by omega) rfl rfl (Nat.le_of_ble_eq_true rfl) 25 rfl (Qv.to (fun M' hv => ?_))
      subst hv
      refine z_aload_n hX dX10_conjunction_25 rfl 26 rfl ?_
      refine z_iconst hX dX10_conjunction_26 qi_2 27 rfl ?_
      refine z_sipush hX dX10_conjunction_27 qs_261 30 rfl ?_
      obtain ⟨M11_, hq, h12_⟩ := zcV_of h10_
      refine z_callV hX vX10_puts lX10_276 dX10_conjunction_30 zs_98 rfl (mX10_puts  hq) (by omega) rfl rfl (Nat.le_of_ble_eq_true rfl) 33 rfl (Qv.to (fun M' hv => ?_))
      subst hv
      refine z_goto hX dX10_conjunction_33 4 (by decide) ?_
      refine z_mask [true] ?_
      have hz := hrc4 _ h12_
      exact hz
def bX10_conjunction (F : Nat → zM → Option zM) (M : zM) : Option zM :=
  zcV (F 2 M) (fun M1_ => zfix zFu (gX10_conjunction_L4 F) M1_)
set_option maxRecDepth 100000 in
set_option maxHeartbeats 2000000 in
theorem nX10_conjunction {G : zG} {k : Nat} {F : Nat → zM → Option zM}  {M : zM} (hF0 : ∀  (M res : zM), F 0  M = some res → Ct G (8 + k) tX10_expression [.ref 98] M (zQv res)) (hF1 : ∀  (M res : zM), F 1  M = some res → Ct G (8 + k) tX10_conjunction [.ref 98] M (zQv res)) (hF2 : ∀  (M res : zM), F 2  M = some res → Ct G (8 + k) tX10_negation [.ref 98] M (zQv res)) (hF3 : ∀  (M res : zM), F 3  M = some res → Ct G (8 + k) tX10_sum [.ref 98] M (zQv res)) (hF4 : ∀  (M res : zM), F 4  M = some res → Ct G (8 + k) tX10_product [.ref 98] M (zQv res)) (hF5 : ∀  (M res : zM), F 5  M = some res → Ct G (8 + k) tX10_primary [.ref 98] M (zQv res)) {res : zM} (h : bX10_conjunction F M = some res) : Ct G (8 + (k + 1)) tX10_conjunction [.ref 98] M (zQv res) := by
  unfold bX10_conjunction at h
  refine Ct.of (y := yX10_conjunction) rfl plX10 (Nat.le_of_ble_eq_true rfl) (fun X hX => ?_)
  replace hX : zC G X cX10_conjunction 1 RX10 none (8 + (k + 1)) := hX
  show Z G X _ 0 [some (.ref 98)] [] M
  refine z_aload_n hX dX10_conjunction_0 rfl 1 rfl ?_
  obtain ⟨M1_, hq, h2_⟩ := zcV_of h
  refine z_callV hX vX10_negation lX10_279 dX10_conjunction_1 zs_98 rfl (hF2 _ _ hq) (by omega) rfl rfl (Nat.le_of_ble_eq_true rfl) 4 rfl (Qv.to (fun M' hv => ?_))
  subst hv
  refine z_mask [true] ?_
  have hz := aX10_conjunction_L4 hX hF0 hF1 hF2 hF3 hF4 hF5 _ _ h2_
  exact hz
def gX10_negation_J87 (F : Nat → zM → Option zM) (M : zM) : Option zM :=
  zcV (gX10_knot M) (fun M5_ => zcV (gX10_goOn M5_) (fun M7_ => zcV (F 3 M7_) (fun M9_ => zcV (gX10_puts 2 (M.1 98 25) M9_) (fun M11_ => some M11_))))
set_option maxRecDepth 100000 in
set_option maxHeartbeats 2000000 in
theorem aX10_negation_J87 {G : zG} {X : zX} {k : Nat} {F : Nat → zM → Option zM} (hX : zC G X cX10_negation 2 RX10 none (8 + (k + 1))) (hF0 : ∀  (M res : zM), F 0  M = some res → Ct G (8 + k) tX10_expression [.ref 98] M (zQv res)) (hF1 : ∀  (M res : zM), F 1  M = some res → Ct G (8 + k) tX10_conjunction [.ref 98] M (zQv res)) (hF2 : ∀  (M res : zM), F 2  M = some res → Ct G (8 + k) tX10_negation [.ref 98] M (zQv res)) (hF3 : ∀  (M res : zM), F 3  M = some res → Ct G (8 + k) tX10_sum [.ref 98] M (zQv res)) (hF4 : ∀  (M res : zM), F 4  M = some res → Ct G (8 + k) tX10_product [.ref 98] M (zQv res)) (hF5 : ∀  (M res : zM), F 5  M = some res → Ct G (8 + k) tX10_primary [.ref 98] M (zQv res))  {M : zM} {res : zM}  (h : gX10_negation_J87 F M = some res) : Z G X (zQv res) 87 [some (.ref 98), none] [] M := by
  unfold gX10_negation_J87 at h
  refine z_aload_n hX dX10_negation_87 rfl 88 rfl ?_
  refine z_getI hX fX10_183 dX10_negation_88 zs_98 (by decide) rfl 91 rfl ?_
  refine z_istore_n hX dX10_negation_91 (by decide) 92 rfl ?_
  refine z_aload_n hX dX10_negation_92 rfl 93 rfl ?_
  obtain ⟨M5_, hq, h6_⟩ := zcV_of h
  refine z_callV hX vX10_knot lX10_273 dX10_negation_93 zs_98 rfl (mX10_knot  hq) (by omega) rfl rfl (Nat.le_of_ble_eq_true rfl) 96 rfl (Qv.to (fun M' hv => ?_))
  subst hv
  refine z_aload_n hX dX10_negation_96 rfl 97 rfl ?_
  obtain ⟨M7_, hq, h8_⟩ := zcV_of h6_
  refine z_callV hX vX10_goOn lX10_228 dX10_negation_97 zs_98 rfl (mX10_goOn  hq) (by omega) rfl rfl (Nat.le_of_ble_eq_true rfl) 100 rfl (Qv.to (fun M' hv => ?_))
  subst hv
  refine z_aload_n hX dX10_negation_100 rfl 101 rfl ?_
  obtain ⟨M9_, hq, h10_⟩ := zcV_of h8_
  refine z_callV hX vX10_sum lX10_282 dX10_negation_101 zs_98 rfl (hF3 _ _ hq) (by omega) rfl rfl (Nat.le_of_ble_eq_true rfl) 104 rfl (Qv.to (fun M' hv => ?_))
  subst hv
  refine z_aload_n hX dX10_negation_104 rfl 105 rfl ?_
  refine z_iconst hX dX10_negation_105 qi_2 106 rfl ?_
  refine z_iload_n hX dX10_negation_106 rfl 107 rfl ?_
  obtain ⟨M11_, hq, h12_⟩ := zcV_of h10_
  refine z_callV hX vX10_puts lX10_276 dX10_negation_107 zs_98 rfl (mX10_puts  hq) (by omega) rfl rfl (Nat.le_of_ble_eq_true rfl) 110 rfl (Qv.to (fun M' hv => ?_))
  subst hv
  exact z_return hX dX10_negation_110 (zend_v h12_)
def bX10_negation (F : Nat → zM → Option zM) (M : zM) : Option zM :=
  zcI (gX10_isWord 14 M) (fun v1_ => (if v1_ = 0 then zcV (F 3 M) (fun M3_ => (if (M3_.1 98 26) = 0 then (if (M3_.1 98 24) = 3 then (if (M3_.1 98 25) = 60 then gX10_negation_J87 F M3_
  else (if (M3_.1 98 25) = 62 then gX10_negation_J87 F M3_
  else (if (M3_.1 98 25) = 61 then gX10_negation_J87 F M3_
  else (if 256 ≤ (M3_.1 98 25) then gX10_negation_J87 F M3_
  else some M3_))))
  else some M3_)
  else some M3_))
  else zcV (gX10_knot M) (fun M13_ => zcV (gX10_goOn M13_) (fun M15_ => zcV (F 2 M15_) (fun M17_ => zcV (gX10_puts 2 260 M17_) (fun M19_ => some M19_))))))
set_option maxRecDepth 100000 in
set_option maxHeartbeats 2000000 in
theorem nX10_negation {G : zG} {k : Nat} {F : Nat → zM → Option zM}  {M : zM} (hF0 : ∀  (M res : zM), F 0  M = some res → Ct G (8 + k) tX10_expression [.ref 98] M (zQv res)) (hF1 : ∀  (M res : zM), F 1  M = some res → Ct G (8 + k) tX10_conjunction [.ref 98] M (zQv res)) (hF2 : ∀  (M res : zM), F 2  M = some res → Ct G (8 + k) tX10_negation [.ref 98] M (zQv res)) (hF3 : ∀  (M res : zM), F 3  M = some res → Ct G (8 + k) tX10_sum [.ref 98] M (zQv res)) (hF4 : ∀  (M res : zM), F 4  M = some res → Ct G (8 + k) tX10_product [.ref 98] M (zQv res)) (hF5 : ∀  (M res : zM), F 5  M = some res → Ct G (8 + k) tX10_primary [.ref 98] M (zQv res)) {res : zM} (h : bX10_negation F M = some res) : Ct G (8 + (k + 1)) tX10_negation [.ref 98] M (zQv res) := by
  unfold bX10_negation at h
  refine Ct.of (y := yX10_negation) rfl plX10 (Nat.le_of_ble_eq_true rfl) (fun X hX => ?_)
  replace hX : zC G X cX10_negation 2 RX10 none (8 + (k + 1)) := hX
  show Z G X _ 0 [some (.ref 98), none] [] M
  refine z_aload_n hX dX10_negation_0 rfl 1 rfl ?_
  refine z_bipush hX dX10_negation_1 qb_14 3 rfl ?_
  obtain ⟨v1_, hq, h2_⟩ := zcI_of h
  refine z_callV hX vX10_isWord lX10_270 dX10_negation_3 zs_98 rfl (mX10_isWord  hq) (by omega) rfl rfl (Nat.le_of_ble_eq_true rfl) 6 rfl (Qi.to (fun v' M' hv => ?_))
  obtain ⟨rfl, rfl⟩ := hv
  refine z_if_eq hX dX10_negation_6 30 9 (by decide) rfl (fun hc => ?_) (fun hc => ?_)
  · rw [if_pos hc] at h2_
    refine z_aload_n hX dX10_negation_30 rfl 31 rfl ?_
    obtain ⟨M3_, hq, h4_⟩ := zcV_of h2_
    refine z_callV hX vX10_sum lX10_282 dX10_negation_31 zs_98 rfl (hF3 _ _ hq) (by omega) rfl rfl (Nat.le_of_ble_eq_true rfl) 34 rfl (Qv.to (fun M' hv => ?_))
    subst hv
    refine z_aload_n hX dX10_negation_34 rfl 35 rfl ?_
    refine z_getI hX fX10_208 dX10_negation_35 zs_98 (by decide) rfl 38 rfl ?_
    refine z_if_ne hX dX10_negation_38 86 41 (by decide) rfl (fun hc => ?_) (fun hc => ?_)
    · rw [if_neg hc] at h4_
      exact z_return hX dX10_negation_86 (zend_v h4_)
    · rw [if_pos hc] at h4_
      refine z_aload_n hX dX10_negation_41 rfl 42 rfl ?_
      refine z_getI hX fX10_173 dX10_negation_42 zs_98 (by decide) rfl 45 rfl ?_
      refine z_iconst hX dX10_negation_45 qi_3 46 rfl ?_
      refine z_icmp_ne hX dX10_negation_46 86 49 (by decide) rfl (fun hc => ?_) (fun hc => ?_)
      · rw [if_neg hc] at h4_
        exact z_return hX dX10_negation_86 (zend_v h4_)
      · rw [if_pos hc] at h4_
        refine z_aload_n hX dX10_negation_49 rfl 50 rfl ?_
        refine z_getI hX fX10_183 dX10_negation_50 zs_98 (by decide) rfl 53 rfl ?_
        refine z_bipush hX dX10_negation_53 qb_60 55 rfl ?_
        refine z_icmp_eq hX dX10_negation_55 87 58 (by decide) rfl (fun hc => ?_) (fun hc => ?_)
        · rw [if_pos hc] at h4_
          refine z_mask [true, false] ?_
          have hz := aX10_negation_J87 hX hF0 hF1 hF2 hF3 hF4 hF5 h4_
          exact hz
        · rw [if_neg hc] at h4_
          refine z_aload_n hX dX10_negation_58 rfl 59 rfl ?_
          refine z_getI hX fX10_183 dX10_negation_59 zs_98 (by decide) rfl 62 rfl ?_
          refine z_bipush hX dX10_negation_62 qb_62 64 rfl ?_
          refine z_icmp_eq hX dX10_negation_64 87 67 (by decide) rfl (fun hc => ?_) (fun hc => ?_)
          · rw [if_pos hc] at h4_
            refine z_mask [true, false] ?_
            have hz := aX10_negation_J87 hX hF0 hF1 hF2 hF3 hF4 hF5 h4_
            exact hz
          · rw [if_neg hc] at h4_
            refine z_aload_n hX dX10_negation_67 rfl 68 rfl ?_
            refine z_getI hX fX10_183 dX10_negation_68 zs_98 (by decide) rfl 71 rfl ?_
            refine z_bipush hX dX10_negation_71 qb_61 73 rfl ?_
            refine z_icmp_eq hX dX10_negation_73 87 76 (by decide) rfl (fun hc => ?_) (fun hc => ?_)
            · rw [if_pos hc] at h4_
              refine z_mask [true, false] ?_
              have hz := aX10_negation_J87 hX hF0 hF1 hF2 hF3 hF4 hF5 h4_
              exact hz
            · rw [if_neg hc] at h4_
              refine z_aload_n hX dX10_negation_76 rfl 77 rfl ?_
              refine z_getI hX fX10_183 dX10_negation_77 zs_98 (by decide) rfl 80 rfl ?_
              refine z_sipush hX dX10_negation_80 qs_256 83 rfl ?_
              refine z_icmp_ge hX dX10_negation_83 87 86 (by decide) rfl (fun hc => ?_) (fun hc => ?_)
              · rw [if_pos hc] at h4_
                refine z_mask [true, false] ?_
                have hz := aX10_negation_J87 hX hF0 hF1 hF2 hF3 hF4 hF5 h4_
                exact hz
              · rw [if_neg hc] at h4_
                exact z_return hX dX10_negation_86 (zend_v h4_)
  · rw [if_neg hc] at h2_
    refine z_aload_n hX dX10_negation_9 rfl 10 rfl ?_
    obtain ⟨M13_, hq, h14_⟩ := zcV_of h2_
    refine z_callV hX vX10_knot lX10_273 dX10_negation_10 zs_98 rfl (mX10_knot  hq) (by omega) rfl rfl (Nat.le_of_ble_eq_true rfl) 13 rfl (Qv.to (fun M' hv => ?_))
    subst hv
    refine z_aload_n hX dX10_negation_13 rfl 14 rfl ?_
    obtain ⟨M15_, hq, h16_⟩ := zcV_of h14_
    refine z_callV hX vX10_goOn lX10_228 dX10_negation_14 zs_98 rfl (mX10_goOn  hq) (by omega) rfl rfl (Nat.le_of_ble_eq_true rfl) 17 rfl (Qv.to (fun M' hv => ?_))
    subst hv
    refine z_aload_n hX dX10_negation_17 rfl 18 rfl ?_
    obtain ⟨M17_, hq, h18_⟩ := zcV_of h16_
    refine z_callV hX vX10_negation lX10_279 dX10_negation_18 zs_98 rfl (hF2 _ _ hq) (by omega) rfl rfl (Nat.le_of_ble_eq_true rfl) 21 rfl (Qv.to (fun M' hv => ?_))
    subst hv
    refine z_aload_n hX dX10_negation_21 rfl 22 rfl ?_
    refine z_iconst hX dX10_negation_22 qi_2 23 rfl ?_
    refine z_sipush hX dX10_negation_23 qs_260 26 rfl ?_
    obtain ⟨M19_, hq, h20_⟩ := zcV_of h18_
    refine z_callV hX vX10_puts lX10_276 dX10_negation_26 zs_98 rfl (mX10_puts  hq) (by omega) rfl rfl (Nat.le_of_ble_eq_true rfl) 29 rfl (Qv.to (fun M' hv => ?_))
    subst hv
    exact z_return hX dX10_negation_29 (zend_v h20_)
def gX10_sum_J22 (F : Nat → zM → Option zM) (rc4 : zM → Option zM) (M : zM) : Option zM :=
  zcV (gX10_knot M) (fun M5_ => zcV (gX10_goOn M5_) (fun M7_ => zcV (F 4 M7_) (fun M9_ => zcV (gX10_puts 2 (M.1 98 25) M9_) (fun M11_ => rc4 M11_))))
set_option maxRecDepth 100000 in
set_option maxHeartbeats 2000000 in
theorem aX10_sum_J22 {G : zG} {X : zX} {k : Nat} {F : Nat → zM → Option zM} (hX : zC G X cX10_sum 2 RX10 none (8 + (k + 1))) (hF0 : ∀  (M res : zM), F 0  M = some res → Ct G (8 + k) tX10_expression [.ref 98] M (zQv res)) (hF1 : ∀  (M res : zM), F 1  M = some res → Ct G (8 + k) tX10_conjunction [.ref 98] M (zQv res)) (hF2 : ∀  (M res : zM), F 2  M = some res → Ct G (8 + k) tX10_negation [.ref 98] M (zQv res)) (hF3 : ∀  (M res : zM), F 3  M = some res → Ct G (8 + k) tX10_sum [.ref 98] M (zQv res)) (hF4 : ∀  (M res : zM), F 4  M = some res → Ct G (8 + k) tX10_product [.ref 98] M (zQv res)) (hF5 : ∀  (M res : zM), F 5  M = some res → Ct G (8 + k) tX10_primary [.ref 98] M (zQv res)) {rc4 : zM → Option zM} {M : zM} {res : zM} (hrc4 : ∀ s : zM, rc4 s = some res → Z G X (zQv res) 4 [some (.ref 98), none] [] s) (h : gX10_sum_J22 F rc4 M = some res) : Z G X (zQv res) 22 [some (.ref 98), none] [] M := by
  unfold gX10_sum_J22 at h
  refine z_aload_n hX dX10_sum_22 rfl 23 rfl ?_
  refine z_getI hX fX10_183 dX10_sum_23 zs_98 (by decide) rfl 26 rfl ?_
  refine z_istore_n hX dX10_sum_26 (by decide) 27 rfl ?_
  refine z_aload_n hX dX10_sum_27 rfl 28 rfl ?_
  obtain ⟨M5_, hq, h6_⟩ := zcV_of h
  refine z_callV hX vX10_knot lX10_273 dX10_sum_28 zs_98 rfl (mX10_knot  hq) (by omega) rfl rfl (Nat.le_of_ble_eq_true rfl) 31 rfl (Qv.to (fun M' hv => ?_))
  subst hv
  refine z_aload_n hX dX10_sum_31 rfl 32 rfl ?_
  obtain ⟨M7_, hq, h8_⟩ := zcV_of h6_
  refine z_callV hX vX10_goOn lX10_228 dX10_sum_32 zs_98 rfl (mX10_goOn  hq) (by omega) rfl rfl (Nat.le_of_ble_eq_true rfl) 35 rfl (Qv.to (fun M' hv => ?_))
  subst hv
  refine z_aload_n hX dX10_sum_35 rfl 36 rfl ?_
  obtain ⟨M9_, hq, h10_⟩ := zcV_of h8_
  refine z_callV hX vX10_product lX10_285 dX10_sum_36 zs_98 rfl (hF4 _ _ hq) (by omega) rfl rfl (Nat.le_of_ble_eq_true rfl) 39 rfl (Qv.to (fun M' hv => ?_))
  subst hv
  refine z_aload_n hX dX10_sum_39 rfl 40 rfl ?_
  refine z_iconst hX dX10_sum_40 qi_2 41 rfl ?_
  refine z_iload_n hX dX10_sum_41 rfl 42 rfl ?_
  obtain ⟨M11_, hq, h12_⟩ := zcV_of h10_
  refine z_callV hX vX10_puts lX10_276 dX10_sum_42 zs_98 rfl (mX10_puts  hq) (by omega) rfl rfl (Nat.le_of_ble_eq_true rfl) 45 rfl (Qv.to (fun M' hv => ?_))
  subst hv
  refine z_goto hX dX10_sum_45 4 (by decide) ?_
  refine z_mask [true, false] ?_
  have hz := hrc4 _ h12_
  exact hz
def gX10_sum_L4 (F : Nat → zM → Option zM) (rc4 : zM → Option zM) (s : zM) : Option zM :=
  zcI (gX10_isSign 43 s) (fun v3_ => (if v3_ = 0 then zcI (gX10_isSign 45 s) (fun v13_ => (if v13_ = 0 then some s
  else gX10_sum_J22 F rc4 s))
  else gX10_sum_J22 F rc4 s))
set_option maxRecDepth 100000 in
set_option maxHeartbeats 2000000 in
theorem aX10_sum_L4 {G : zG} {X : zX} {k : Nat} {F : Nat → zM → Option zM} (hX : zC G X cX10_sum 2 RX10 none (8 + (k + 1))) (hF0 : ∀  (M res : zM), F 0  M = some res → Ct G (8 + k) tX10_expression [.ref 98] M (zQv res)) (hF1 : ∀  (M res : zM), F 1  M = some res → Ct G (8 + k) tX10_conjunction [.ref 98] M (zQv res)) (hF2 : ∀  (M res : zM), F 2  M = some res → Ct G (8 + k) tX10_negation [.ref 98] M (zQv res)) (hF3 : ∀  (M res : zM), F 3  M = some res → Ct G (8 + k) tX10_sum [.ref 98] M (zQv res)) (hF4 : ∀  (M res : zM), F 4  M = some res → Ct G (8 + k) tX10_product [.ref 98] M (zQv res)) (hF5 : ∀  (M res : zM), F 5  M = some res → Ct G (8 + k) tX10_primary [.ref 98] M (zQv res))   {res : zM}  : ∀ (N : Nat) (s : zM), zfix N (gX10_sum_L4 F) s = some res → Z G X (zQv res) 4 [some (.ref 98), none] [] s := by
  intro N
  induction N with
  | zero => intro s h; cases h
  | succ N hrc4 =>
    intro s h
    replace h : gX10_sum_L4 F (zfix N (gX10_sum_L4 F)) s = some res := h
    unfold gX10_sum_L4 at h
    refine z_aload_n hX dX10_sum_4 rfl 5 rfl ?_
    refine z_bipush hX dX10_sum_5 qb_43 7 rfl ?_
    obtain ⟨v3_, hq, h4_⟩ := zcI_of h
    refine z_callV hX vX10_isSign lX10_255 dX10_sum_7 zs_98 rfl (mX10_isSign  hq) (by omega) rfl rfl (Nat.le_of_ble_eq_true rfl) 10 rfl (Qi.to (fun v' M' hv => ?_))
    obtain ⟨rfl, rfl⟩ := hv
    refine z_if_ne hX dX10_sum_10 22 13 (by decide) rfl (fun hc => ?_) (fun hc => ?_)
    · rw [if_neg hc] at h4_
      refine z_mask [true, false] ?_
      have hz := aX10_sum_J22 hX hF0 hF1 hF2 hF3 hF4 hF5 hrc4 h4_
      exact hz
    · rw [if_pos hc] at h4_
      refine z_aload_n hX dX10_sum_13 rfl 14 rfl ?_
      refine z_bipush hX dX10_sum_14 qb_45 16 rfl ?_
      obtain ⟨v13_, hq, h14_⟩ := zcI_of h4_
      refine z_callV hX vX10_isSign lX10_255 dX10_sum_16 zs_98 rfl (mX10_isSign  hq) (by omega) rfl rfl (Nat.le_of_ble_eq_true rfl) 19 rfl (Qi.to (fun v' M' hv => ?_))
      obtain ⟨rfl, rfl⟩ := hv
      refine z_if_eq hX dX10_sum_19 48 22 (by decide) rfl (fun hc => ?_) (fun hc => ?_)
      · rw [if_pos hc] at h14_
        exact z_return hX dX10_sum_48 (zend_v h14_)
      · rw [if_neg hc] at h14_
        refine z_mask [true, false] ?_
        have hz := aX10_sum_J22 hX hF0 hF1 hF2 hF3 hF4 hF5 hrc4 h14_
        exact hz
def bX10_sum (F : Nat → zM → Option zM) (M : zM) : Option zM :=
  zcV (F 4 M) (fun M1_ => zfix zFu (gX10_sum_L4 F) M1_)
set_option maxRecDepth 100000 in
set_option maxHeartbeats 2000000 in
theorem nX10_sum {G : zG} {k : Nat} {F : Nat → zM → Option zM}  {M : zM} (hF0 : ∀  (M res : zM), F 0  M = some res → Ct G (8 + k) tX10_expression [.ref 98] M (zQv res)) (hF1 : ∀  (M res : zM), F 1  M = some res → Ct G (8 + k) tX10_conjunction [.ref 98] M (zQv res)) (hF2 : ∀  (M res : zM), F 2  M = some res → Ct G (8 + k) tX10_negation [.ref 98] M (zQv res)) (hF3 : ∀  (M res : zM), F 3  M = some res → Ct G (8 + k) tX10_sum [.ref 98] M (zQv res)) (hF4 : ∀  (M res : zM), F 4  M = some res → Ct G (8 + k) tX10_product [.ref 98] M (zQv res)) (hF5 : ∀  (M res : zM), F 5  M = some res → Ct G (8 + k) tX10_primary [.ref 98] M (zQv res)) {res : zM} (h : bX10_sum F M = some res) : Ct G (8 + (k + 1)) tX10_sum [.ref 98] M (zQv res) := by
  unfold bX10_sum at h
  refine Ct.of (y := yX10_sum) rfl plX10 (Nat.le_of_ble_eq_true rfl) (fun X hX => ?_)
  replace hX : zC G X cX10_sum 2 RX10 none (8 + (k + 1)) := hX
  show Z G X _ 0 [some (.ref 98), none] [] M
  refine z_aload_n hX dX10_sum_0 rfl 1 rfl ?_
  obtain ⟨M1_, hq, h2_⟩ := zcV_of h
  refine z_callV hX vX10_product lX10_285 dX10_sum_1 zs_98 rfl (hF4 _ _ hq) (by omega) rfl rfl (Nat.le_of_ble_eq_true rfl) 4 rfl (Qv.to (fun M' hv => ?_))
  subst hv
  refine z_mask [true, false] ?_
  have hz := aX10_sum_L4 hX hF0 hF1 hF2 hF3 hF4 hF5 _ _ h2_
  exact hz
def gX10_product_J22 (F : Nat → zM → Option zM) (rc4 : zM → Option zM) (M : zM) : Option zM :=
  zcV (gX10_knot M) (fun M5_ => zcV (gX10_goOn M5_) (fun M7_ => zcV (F 5 M7_) (fun M9_ => zcV (gX10_puts 2 (M.1 98 25) M9_) (fun M11_ => rc4 M11_))))
set_option maxRecDepth 100000 in
set_option maxHeartbeats 2000000 in
theorem aX10_product_J22 {G : zG} {X : zX} {k : Nat} {F : Nat → zM → Option zM} (hX : zC G X cX10_product 2 RX10 none (8 + (k + 1))) (hF0 : ∀  (M res : zM), F 0  M = some res → Ct G (8 + k) tX10_expression [.ref 98] M (zQv res)) (hF1 : ∀  (M res : zM), F 1  M = some res → Ct G (8 + k) tX10_conjunction [.ref 98] M (zQv res)) (hF2 : ∀  (M res : zM), F 2  M = some res → Ct G (8 + k) tX10_negation [.ref 98] M (zQv res)) (hF3 : ∀  (M res : zM), F 3  M = some res → Ct G (8 + k) tX10_sum [.ref 98] M (zQv res)) (hF4 : ∀  (M res : zM), F 4  M = some res → Ct G (8 + k) tX10_product [.ref 98] M (zQv res)) (hF5 : ∀  (M res : zM), F 5  M = some res → Ct G (8 + k) tX10_primary [.ref 98] M (zQv res)) {rc4 : zM → Option zM} {M : zM} {res : zM} (hrc4 : ∀ s : zM, rc4 s = some res → Z G X (zQv res) 4 [some (.ref 98), none] [] s) (h : gX10_product_J22 F rc4 M = some res) : Z G X (zQv res) 22 [some (.ref 98), none] [] M := by
  unfold gX10_product_J22 at h
  refine z_aload_n hX dX10_product_22 rfl 23 rfl ?_
  refine z_getI hX fX10_183 dX10_product_23 zs_98 (by decide) rfl 26 rfl ?_
  refine z_istore_n hX dX10_product_26 (by decide) 27 rfl ?_
  refine z_aload_n hX dX10_product_27 rfl 28 rfl ?_
  obtain ⟨M5_, hq, h6_⟩ := zcV_of h
  refine z_callV hX vX10_knot lX10_273 dX10_product_28 zs_98 rfl (mX10_knot  hq) (by omega) rfl rfl (Nat.le_of_ble_eq_true rfl) 31 rfl (Qv.to (fun M' hv => ?_))
  subst hv
  refine z_aload_n hX dX10_product_31 rfl 32 rfl ?_
  obtain ⟨M7_, hq, h8_⟩ := zcV_of h6_
  refine z_callV hX vX10_goOn lX10_228 dX10_product_32 zs_98 rfl (mX10_goOn  hq) (by omega) rfl rfl (Nat.le_of_ble_eq_true rfl) 35 rfl (Qv.to (fun M' hv => ?_))
  subst hv
  refine z_aload_n hX dX10_product_35 rfl 36 rfl ?_
  obtain ⟨M9_, hq, h10_⟩ := zcV_of h8_
  refine z_callV hX vX10_primary lX10_288 dX10_product_36 zs_98 rfl (hF5 _ _ hq) (by omega) rfl rfl (Nat.le_of_ble_eq_true rfl) 39 rfl (Qv.to (fun M' hv => ?_))
  subst hv
  refine z_aload_n hX dX10_product_39 rfl 40 rfl ?_
  refine z_iconst hX dX10_product_40 qi_2 41 rfl ?_
  refine z_iload_n hX dX10_product_41 rfl 42 rfl ?_
  obtain ⟨M11_, hq, h12_⟩ := zcV_of h10_
  refine z_callV hX vX10_puts lX10_276 dX10_product_42 zs_98 rfl (mX10_puts  hq) (by omega) rfl rfl (Nat.le_of_ble_eq_true rfl) 45 rfl (Qv.to (fun M' hv => ?_))
  subst hv
  refine z_goto hX dX10_product_45 4 (by decide) ?_
  refine z_mask [true, false] ?_
  have hz := hrc4 _ h12_
  exact hz
def gX10_product_L4 (F : Nat → zM → Option zM) (rc4 : zM → Option zM) (s : zM) : Option zM :=
  zcI (gX10_isSign 42 s) (fun v3_ => (if v3_ = 0 then zcI (gX10_isSign 47 s) (fun v13_ => (if v13_ = 0 then some s
  else gX10_product_J22 F rc4 s))
  else gX10_product_J22 F rc4 s))
set_option maxRecDepth 100000 in
set_option maxHeartbeats 2000000 in
theorem aX10_product_L4 {G : zG} {X : zX} {k : Nat} {F : Nat → zM → Option zM} (hX : zC G X cX10_product 2 RX10 none (8 + (k + 1))) (hF0 : ∀  (M res : zM), F 0  M = some res → Ct G (8 + k) tX10_expression [.ref 98] M (zQv res)) (hF1 : ∀  (M res : zM), F 1  M = some res → Ct G (8 + k) tX10_conjunction [.ref 98] M (zQv res)) (hF2 : ∀  (M res : zM), F 2  M = some res → Ct G (8 + k) tX10_negation [.ref 98] M (zQv res)) (hF3 : ∀  (M res : zM), F 3  M = some res → Ct G (8 + k) tX10_sum [.ref 98] M (zQv res)) (hF4 : ∀  (M res : zM), F 4  M = some res → Ct G (8 + k) tX10_product [.ref 98] M (zQv res)) (hF5 : ∀  (M res : zM), F 5  M = some res → Ct G (8 + k) tX10_primary [.ref 98] M (zQv res))   {res : zM}  : ∀ (N : Nat) (s : zM), zfix N (gX10_product_L4 F) s = some res → Z G X (zQv res) 4 [some (.ref 98), none] [] s := by
  intro N
  induction N with
  | zero => intro s h; cases h
  | succ N hrc4 =>
    intro s h
    replace h : gX10_product_L4 F (zfix N (gX10_product_L4 F)) s = some res := h
    unfold gX10_product_L4 at h
    refine z_aload_n hX dX10_product_4 rfl 5 rfl ?_
    refine z_bipush hX dX10_product_5 qb_42 7 rfl ?_
    obtain ⟨v3_, hq, h4_⟩ := zcI_of h
    refine z_callV hX vX10_isSign lX10_255 dX10_product_7 zs_98 rfl (mX10_isSign  hq) (by omega) rfl rfl (Nat.le_of_ble_eq_true rfl) 10 rfl (Qi.to (fun v' M' hv => ?_))
    obtain ⟨rfl, rfl⟩ := hv
    refine z_if_ne hX dX10_product_10 22 13 (by decide) rfl (fun hc => ?_) (fun hc => ?_)
    · rw [if_neg hc] at h4_
      refine z_mask [true, false] ?_
      have hz := aX10_product_J22 hX hF0 hF1 hF2 hF3 hF4 hF5 hrc4 h4_
      exact hz
    · rw [if_pos hc] at h4_
      refine z_aload_n hX dX10_product_13 rfl 14 rfl ?_
      refine z_bipush hX dX10_product_14 qb_47 16 rfl ?_
      obtain ⟨v13_, hq, h14_⟩ := zcI_of h4_
      refine z_callV hX vX10_isSign lX10_255 dX10_product_16 zs_98 rfl (mX10_isSign  hq) (by omega) rfl rfl (Nat.le_of_ble_eq_true rfl) 19 rfl (Qi.to (fun v' M' hv => ?_))
      obtain ⟨rfl, rfl⟩ := hv
      refine z_if_eq hX dX10_product_19 48 22 (by decide) rfl (fun hc => ?_) (fun hc => ?_)
      · rw [if_pos hc] at h14_
        exact z_return hX dX10_product_48 (zend_v h14_)
      · rw [if_neg hc] at h14_
        refine z_mask [true, false] ?_
        have hz := aX10_product_J22 hX hF0 hF1 hF2 hF3 hF4 hF5 hrc4 h14_
        exact hz
def bX10_product (F : Nat → zM → Option zM) (M : zM) : Option zM :=
  zcV (F 5 M) (fun M1_ => zfix zFu (gX10_product_L4 F) M1_)
set_option maxRecDepth 100000 in
set_option maxHeartbeats 2000000 in
theorem nX10_product {G : zG} {k : Nat} {F : Nat → zM → Option zM}  {M : zM} (hF0 : ∀  (M res : zM), F 0  M = some res → Ct G (8 + k) tX10_expression [.ref 98] M (zQv res)) (hF1 : ∀  (M res : zM), F 1  M = some res → Ct G (8 + k) tX10_conjunction [.ref 98] M (zQv res)) (hF2 : ∀  (M res : zM), F 2  M = some res → Ct G (8 + k) tX10_negation [.ref 98] M (zQv res)) (hF3 : ∀  (M res : zM), F 3  M = some res → Ct G (8 + k) tX10_sum [.ref 98] M (zQv res)) (hF4 : ∀  (M res : zM), F 4  M = some res → Ct G (8 + k) tX10_product [.ref 98] M (zQv res)) (hF5 : ∀  (M res : zM), F 5  M = some res → Ct G (8 + k) tX10_primary [.ref 98] M (zQv res)) {res : zM} (h : bX10_product F M = some res) : Ct G (8 + (k + 1)) tX10_product [.ref 98] M (zQv res) := by
  unfold bX10_product at h
  refine Ct.of (y := yX10_product) rfl plX10 (Nat.le_of_ble_eq_true rfl) (fun X hX => ?_)
  replace hX : zC G X cX10_product 2 RX10 none (8 + (k + 1)) := hX
  show Z G X _ 0 [some (.ref 98), none] [] M
  refine z_aload_n hX dX10_product_0 rfl 1 rfl ?_
  obtain ⟨M1_, hq, h2_⟩ := zcV_of h
  refine z_callV hX vX10_primary lX10_288 dX10_product_1 zs_98 rfl (hF5 _ _ hq) (by omega) rfl rfl (Nat.le_of_ble_eq_true rfl) 4 rfl (Qv.to (fun M' hv => ?_))
  subst hv
  refine z_mask [true, false] ?_
  have hz := aX10_product_L4 hX hF0 hF1 hF2 hF3 hF4 hF5 _ _ h2_
  exact hz
def gX10_primary_J194 (F : Nat → zM → Option zM) (y1 : Int32) (y2 : Int32) (M : zM) : Option zM :=
  zcV (gX10_puts y1 y2 M) (fun M5_ => zcV (gX10_goOn M5_) (fun M7_ => some M7_))
set_option maxRecDepth 100000 in
set_option maxHeartbeats 2000000 in
theorem aX10_primary_J194 {G : zG} {X : zX} {k : Nat} {F : Nat → zM → Option zM} {y1 : Int32} {y2 : Int32} (hX : zC G X cX10_primary 2 RX10 none (8 + (k + 1))) (hF0 : ∀  (M res : zM), F 0  M = some res → Ct G (8 + k) tX10_expression [.ref 98] M (zQv res)) (hF1 : ∀  (M res : zM), F 1  M = some res → Ct G (8 + k) tX10_conjunction [.ref 98] M (zQv res)) (hF2 : ∀  (M res : zM), F 2  M = some res → Ct G (8 + k) tX10_negation [.ref 98] M (zQv res)) (hF3 : ∀  (M res : zM), F 3  M = some res → Ct G (8 + k) tX10_sum [.ref 98] M (zQv res)) (hF4 : ∀  (M res : zM), F 4  M = some res → Ct G (8 + k) tX10_product [.ref 98] M (zQv res)) (hF5 : ∀  (M res : zM), F 5  M = some res → Ct G (8 + k) tX10_primary [.ref 98] M (zQv res))  {M : zM} {res : zM}  (h : gX10_primary_J194 F y1 y2 M = some res) : Z G X (zQv res) 194 [some (.ref 98), none] [.int y2, .int y1, .ref 98] M := by
  unfold gX10_primary_J194 at h
  obtain ⟨M5_, hq, h6_⟩ := zcV_of h
  refine z_callV hX vX10_puts lX10_276 dX10_primary_194 zs_98 rfl (mX10_puts  hq) (by omega) rfl rfl (Nat.le_of_ble_eq_true rfl) 197 rfl (Qv.to (fun M' hv => ?_))
  subst hv
  refine z_aload_n hX dX10_primary_197 rfl 198 rfl ?_
  obtain ⟨M7_, hq, h8_⟩ := zcV_of h6_
  refine z_callV hX vX10_goOn lX10_228 dX10_primary_198 zs_98 rfl (mX10_goOn  hq) (by omega) rfl rfl (Nat.le_of_ble_eq_true rfl) 201 rfl (Qv.to (fun M' hv => ?_))
  subst hv
  exact z_return hX dX10_primary_201 (zend_v h8_)
def gX10_primary_J176 (F : Nat → zM → Option zM) (x1 : Int32) (y1 : Int32) (M : zM) : Option zM :=
  (if x1 = 0 then gX10_primary_J194 F y1 ((M.1 98 25) - 15) M
  else gX10_primary_J194 F y1 (M.1 98 25) M)
set_option maxRecDepth 100000 in
set_option maxHeartbeats 2000000 in
theorem aX10_primary_J176 {G : zG} {X : zX} {k : Nat} {F : Nat → zM → Option zM} {x1 : Int32} {y1 : Int32} (hX : zC G X cX10_primary 2 RX10 none (8 + (k + 1))) (hF0 : ∀  (M res : zM), F 0  M = some res → Ct G (8 + k) tX10_expression [.ref 98] M (zQv res)) (hF1 : ∀  (M res : zM), F 1  M = some res → Ct G (8 + k) tX10_conjunction [.ref 98] M (zQv res)) (hF2 : ∀  (M res : zM), F 2  M = some res → Ct G (8 + k) tX10_negation [.ref 98] M (zQv res)) (hF3 : ∀  (M res : zM), F 3  M = some res → Ct G (8 + k) tX10_sum [.ref 98] M (zQv res)) (hF4 : ∀  (M res : zM), F 4  M = some res → Ct G (8 + k) tX10_product [.ref 98] M (zQv res)) (hF5 : ∀  (M res : zM), F 5  M = some res → Ct G (8 + k) tX10_primary [.ref 98] M (zQv res))  {M : zM} {res : zM}  (h : gX10_primary_J176 F x1 y1 M = some res) : Z G X (zQv res) 176 [some (.ref 98), some (.int x1)] [.int y1, .ref 98] M := by
  unfold gX10_primary_J176 at h
  refine z_iload_n hX dX10_primary_176 rfl 177 rfl ?_
  refine z_if_eq hX dX10_primary_177 187 180 (by decide) rfl (fun hc => ?_) (fun hc => ?_)
  · rw [if_pos hc] at h
    refine z_aload_n hX dX10_primary_187 rfl 188 rfl ?_
    refine z_getI hX fX10_183 dX10_primary_188 zs_98 (by decide) rfl 191 rfl ?_
    refine z_bipush hX dX10_primary_191 qb_15 193 rfl ?_
    refine z_isub hX dX10_primary_193 194 rfl ?_
    refine z_mask [true, false] ?_
    have hz := aX10_primary_J194 hX hF0 hF1 hF2 hF3 hF4 hF5 h
    exact hz
  · rw [if_neg hc] at h
    refine z_aload_n hX dX10_primary_180 rfl 181 rfl ?_
    refine z_getI hX fX10_183 dX10_primary_181 zs_98 (by decide) rfl 184 rfl ?_
    refine z_goto hX dX10_primary_184 194 (by decide) ?_
    refine z_mask [true, false] ?_
    have hz := aX10_primary_J194 hX hF0 hF1 hF2 hF3 hF4 hF5 h
    exact hz
def gX10_primary_J162 (F : Nat → zM → Option zM) (x1 : Int32) (M : zM) : Option zM :=
  zcV (gX10_knot M) (fun M3_ => (if x1 = 0 then gX10_primary_J176 F x1 1 M3_
  else gX10_primary_J176 F x1 0 M3_))
set_option maxRecDepth 100000 in
set_option maxHeartbeats 2000000 in
theorem aX10_primary_J162 {G : zG} {X : zX} {k : Nat} {F : Nat → zM → Option zM} {x1 : Int32} (hX : zC G X cX10_primary 2 RX10 none (8 + (k + 1))) (hF0 : ∀  (M res : zM), F 0  M = some res → Ct G (8 + k) tX10_expression [.ref 98] M (zQv res)) (hF1 : ∀  (M res : zM), F 1  M = some res → Ct G (8 + k) tX10_conjunction [.ref 98] M (zQv res)) (hF2 : ∀  (M res : zM), F 2  M = some res → Ct G (8 + k) tX10_negation [.ref 98] M (zQv res)) (hF3 : ∀  (M res : zM), F 3  M = some res → Ct G (8 + k) tX10_sum [.ref 98] M (zQv res)) (hF4 : ∀  (M res : zM), F 4  M = some res → Ct G (8 + k) tX10_product [.ref 98] M (zQv res)) (hF5 : ∀  (M res : zM), F 5  M = some res → Ct G (8 + k) tX10_primary [.ref 98] M (zQv res))  {M : zM} {res : zM}  (h : gX10_primary_J162 F x1 M = some res) : Z G X (zQv res) 162 [some (.ref 98), some (.int x1)] [] M := by
  unfold gX10_primary_J162 at h
  refine z_aload_n hX dX10_primary_162 rfl 163 rfl ?_
  obtain ⟨M3_, hq, h4_⟩ := zcV_of h
  refine z_callV hX vX10_knot lX10_273 dX10_primary_163 zs_98 rfl (mX10_knot  hq) (by omega) rfl rfl (Nat.le_of_ble_eq_true rfl) 166 rfl (Qv.to (fun M' hv => ?_))
  subst hv
  refine z_aload_n hX dX10_primary_166 rfl 167 rfl ?_
  refine z_iload_n hX dX10_primary_167 rfl 168 rfl ?_
  refine z_if_eq hX dX10_primary_168 175 171 (by decide) rfl (fun hc => ?_) (fun hc => ?_)
  · rw [if_pos hc] at h4_
    refine z_iconst hX dX10_primary_175 qi_1 176 rfl ?_
    refine z_mask [true, true] ?_
    have hz := aX10_primary_J176 hX hF0 hF1 hF2 hF3 hF4 hF5 h4_
    exact hz
  · rw [if_neg hc] at h4_
    refine z_iconst hX dX10_primary_171 qi_0 172 rfl ?_
    refine z_goto hX dX10_primary_172 176 (by decide) ?_
    refine z_mask [true, true] ?_
    have hz := aX10_primary_J176 hX hF0 hF1 hF2 hF3 hF4 hF5 h4_
    exact hz
def gX10_primary_J157 (F : Nat → zM → Option zM) (x1 : Int32) (M : zM) : Option zM :=
  zcV (gX10_wrong 1 M) (fun M9_ => gX10_primary_J162 F x1 M9_)
set_option maxRecDepth 100000 in
set_option maxHeartbeats 2000000 in
theorem aX10_primary_J157 {G : zG} {X : zX} {k : Nat} {F : Nat → zM → Option zM} {x1 : Int32} (hX : zC G X cX10_primary 2 RX10 none (8 + (k + 1))) (hF0 : ∀  (M res : zM), F 0  M = some res → Ct G (8 + k) tX10_expression [.ref 98] M (zQv res)) (hF1 : ∀  (M res : zM), F 1  M = some res → Ct G (8 + k) tX10_conjunction [.ref 98] M (zQv res)) (hF2 : ∀  (M res : zM), F 2  M = some res → Ct G (8 + k) tX10_negation [.ref 98] M (zQv res)) (hF3 : ∀  (M res : zM), F 3  M = some res → Ct G (8 + k) tX10_sum [.ref 98] M (zQv res)) (hF4 : ∀  (M res : zM), F 4  M = some res → Ct G (8 + k) tX10_product [.ref 98] M (zQv res)) (hF5 : ∀  (M res : zM), F 5  M = some res → Ct G (8 + k) tX10_primary [.ref 98] M (zQv res))  {M : zM} {res : zM}  (h : gX10_primary_J157 F x1 M = some res) : Z G X (zQv res) 157 [some (.ref 98), some (.int x1)] [] M := by
  unfold gX10_primary_J157 at h
  refine z_aload_n hX dX10_primary_157 rfl 158 rfl ?_
  refine z_iconst hX dX10_primary_158 qi_1 159 rfl ?_
  obtain ⟨M9_, hq, h10_⟩ := zcV_of h
  refine z_callV hX vX10_wrong lX10_217 dX10_primary_159 zs_98 rfl (mX10_wrong  hq) (by omega) rfl rfl (Nat.le_of_ble_eq_true rfl) 162 rfl (Qv.to (fun M' hv => ?_))
  subst hv
  refine z_mask [true, true] ?_
  have hz := aX10_primary_J162 hX hF0 hF1 hF2 hF3 hF4 hF5 h10_
  exact hz
def gX10_primary_J137 (F : Nat → zM → Option zM) (x1 : Int32) (M : zM) : Option zM :=
  (if x1 = 0 then (if (M.1 98 24) = 0 then (if 15 ≤ (M.1 98 25) then gX10_primary_J162 F x1 M
  else gX10_primary_J157 F x1 M)
  else gX10_primary_J157 F x1 M)
  else gX10_primary_J162 F x1 M)
set_option maxRecDepth 100000 in
set_option maxHeartbeats 2000000 in
theorem aX10_primary_J137 {G : zG} {X : zX} {k : Nat} {F : Nat → zM → Option zM} {x1 : Int32} (hX : zC G X cX10_primary 2 RX10 none (8 + (k + 1))) (hF0 : ∀  (M res : zM), F 0  M = some res → Ct G (8 + k) tX10_expression [.ref 98] M (zQv res)) (hF1 : ∀  (M res : zM), F 1  M = some res → Ct G (8 + k) tX10_conjunction [.ref 98] M (zQv res)) (hF2 : ∀  (M res : zM), F 2  M = some res → Ct G (8 + k) tX10_negation [.ref 98] M (zQv res)) (hF3 : ∀  (M res : zM), F 3  M = some res → Ct G (8 + k) tX10_sum [.ref 98] M (zQv res)) (hF4 : ∀  (M res : zM), F 4  M = some res → Ct G (8 + k) tX10_product [.ref 98] M (zQv res)) (hF5 : ∀  (M res : zM), F 5  M = some res → Ct G (8 + k) tX10_primary [.ref 98] M (zQv res))  {M : zM} {res : zM}  (h : gX10_primary_J137 F x1 M = some res) : Z G X (zQv res) 137 [some (.ref 98), some (.int x1)] [] M := by
  unfold gX10_primary_J137 at h
  refine z_iload_n hX dX10_primary_137 rfl 138 rfl ?_
  refine z_if_ne hX dX10_primary_138 162 141 (by decide) rfl (fun hc => ?_) (fun hc => ?_)
  · rw [if_neg hc] at h
    refine z_mask [true, true] ?_
    have hz := aX10_primary_J162 hX hF0 hF1 hF2 hF3 hF4 hF5 h
    exact hz
  · rw [if_pos hc] at h
    refine z_aload_n hX dX10_primary_141 rfl 142 rfl ?_
    refine z_getI hX fX10_173 dX10_primary_142 zs_98 (by decide) rfl 145 rfl ?_
    refine z_if_ne hX dX10_primary_145 157 148 (by decide) rfl (fun hc => ?_) (fun hc => ?_)
    · rw [if_neg hc] at h
      refine z_mask [true, true] ?_
      have hz := aX10_primary_J157 hX hF0 hF1 hF2 hF3 hF4 hF5 h
      exact hz
    · rw [if_pos hc] at h
      refine z_aload_n hX dX10_primary_148 rfl 149 rfl ?_
      refine z_getI hX fX10_183 dX10_primary_149 zs_98 (by decide) rfl 152 rfl ?_
      refine z_bipush hX dX10_primary_152 qb_15 154 rfl ?_
      refine z_icmp_ge hX dX10_primary_154 162 157 (by decide) rfl (fun hc => ?_) (fun hc => ?_)
      · rw [if_pos hc] at h
        refine z_mask [true, true] ?_
        have hz := aX10_primary_J162 hX hF0 hF1 hF2 hF3 hF4 hF5 h
        exact hz
      · rw [if_neg hc] at h
        refine z_mask [true, true] ?_
        have hz := aX10_primary_J157 hX hF0 hF1 hF2 hF3 hF4 hF5 h
        exact hz
def gX10_primary_J114 (F : Nat → zM → Option zM) (y0 : Int32) (M : zM) : Option zM :=
  (if y0 = 0 then gX10_primary_J137 F y0 M
  else (if (M.1 98 25) ≤ 9999 then gX10_primary_J137 F y0 M
  else zcV (gX10_wrong 2 M) (fun M11_ => gX10_primary_J162 F y0 M11_)))
set_option maxRecDepth 100000 in
set_option maxHeartbeats 2000000 in
theorem aX10_primary_J114 {G : zG} {X : zX} {k : Nat} {F : Nat → zM → Option zM} {y0 : Int32} (hX : zC G X cX10_primary 2 RX10 none (8 + (k + 1))) (hF0 : ∀  (M res : zM), F 0  M = some res → Ct G (8 + k) tX10_expression [.ref 98] M (zQv res)) (hF1 : ∀  (M res : zM), F 1  M = some res → Ct G (8 + k) tX10_conjunction [.ref 98] M (zQv res)) (hF2 : ∀  (M res : zM), F 2  M = some res → Ct G (8 + k) tX10_negation [.ref 98] M (zQv res)) (hF3 : ∀  (M res : zM), F 3  M = some res → Ct G (8 + k) tX10_sum [.ref 98] M (zQv res)) (hF4 : ∀  (M res : zM), F 4  M = some res → Ct G (8 + k) tX10_product [.ref 98] M (zQv res)) (hF5 : ∀  (M res : zM), F 5  M = some res → Ct G (8 + k) tX10_primary [.ref 98] M (zQv res))  {M : zM} {res : zM}  (h : gX10_primary_J114 F y0 M = some res) : Z G X (zQv res) 114 [some (.ref 98), none] [.int y0] M := by
  unfold gX10_primary_J114 at h
  refine z_istore_n hX dX10_primary_114 (by decide) 115 rfl ?_
  refine z_iload_n hX dX10_primary_115 rfl 116 rfl ?_
  refine z_if_eq hX dX10_primary_116 137 119 (by decide) rfl (fun hc => ?_) (fun hc => ?_)
  · rw [if_pos hc] at h
    refine z_mask [true, true] ?_
    have hz := aX10_primary_J137 hX hF0 hF1 hF2 hF3 hF4 hF5 h
    exact hz
  · rw [if_neg hc] at h
    refine z_aload_n hX dX10_primary_119 rfl 120 rfl ?_
    refine z_getI hX fX10_183 dX10_primary_120 zs_98 (by decide) rfl 123 rfl ?_
    refine z_sipush hX dX10_primary_123 qs_9999 126 rfl ?_
    refine z_icmp_le hX dX10_primary_126 137 129 (by decide) rfl (fun hc => ?_) (fun hc => ?_)
    · rw [if_pos hc] at h
      refine z_mask [true, true] ?_
      have hz := aX10_primary_J137 hX hF0 hF1 hF2 hF3 hF4 hF5 h
      exact hz
    · rw [if_neg hc] at h
      refine z_aload_n hX dX10_primary_129 rfl 130 rfl ?_
      refine z_iconst hX dX10_primary_130 qi_2 131 rfl ?_
      obtain ⟨M11_, hq, h12_⟩ := zcV_of h
      refine z_callV hX vX10_wrong lX10_217 dX10_primary_131 zs_98 rfl (mX10_wrong  hq) (by omega) rfl rfl (Nat.le_of_ble_eq_true rfl) 134 rfl (Qv.to (fun M' hv => ?_))
      subst hv
      refine z_goto hX dX10_primary_134 162 (by decide) ?_
      refine z_mask [true, true] ?_
      have hz := aX10_primary_J162 hX hF0 hF1 hF2 hF3 hF4 hF5 h12_
      exact hz
def gX10_primary_J78 (F : Nat → zM → Option zM) (M : zM) : Option zM :=
  (if (M.1 98 26) = 0 then zlet (zI M 98 30 ((M.1 98 30) - 1)) (fun M19_ => zcV (gX10_token M19_) (fun M21_ => some M21_))
  else some M)
set_option maxRecDepth 100000 in
set_option maxHeartbeats 2000000 in
theorem aX10_primary_J78 {G : zG} {X : zX} {k : Nat} {F : Nat → zM → Option zM} (hX : zC G X cX10_primary 2 RX10 none (8 + (k + 1))) (hF0 : ∀  (M res : zM), F 0  M = some res → Ct G (8 + k) tX10_expression [.ref 98] M (zQv res)) (hF1 : ∀  (M res : zM), F 1  M = some res → Ct G (8 + k) tX10_conjunction [.ref 98] M (zQv res)) (hF2 : ∀  (M res : zM), F 2  M = some res → Ct G (8 + k) tX10_negation [.ref 98] M (zQv res)) (hF3 : ∀  (M res : zM), F 3  M = some res → Ct G (8 + k) tX10_sum [.ref 98] M (zQv res)) (hF4 : ∀  (M res : zM), F 4  M = some res → Ct G (8 + k) tX10_product [.ref 98] M (zQv res)) (hF5 : ∀  (M res : zM), F 5  M = some res → Ct G (8 + k) tX10_primary [.ref 98] M (zQv res))  {M : zM} {res : zM}  (h : gX10_primary_J78 F M = some res) : Z G X (zQv res) 78 [some (.ref 98), none] [] M := by
  unfold gX10_primary_J78 at h
  refine z_aload_n hX dX10_primary_78 rfl 79 rfl ?_
  refine z_getI hX fX10_208 dX10_primary_79 zs_98 (by decide) rfl 82 rfl ?_
  refine z_if_eq hX dX10_primary_82 86 85 (by decide) rfl (fun hc => ?_) (fun hc => ?_)
  · rw [if_pos hc] at h
    refine z_aload_n hX dX10_primary_86 rfl 87 rfl ?_
    refine z_dup hX dX10_primary_87 rfl 88 rfl ?_
    refine z_getI hX fX10_291 dX10_primary_88 zs_98 (by decide) rfl 91 rfl ?_
    refine z_iconst hX dX10_primary_91 qi_1 92 rfl ?_
    refine z_isub hX dX10_primary_92 93 rfl ?_
    refine z_putI hX pX10_291 dX10_primary_93 zs_98 (by decide) rfl 96 rfl ?_
    refine z_mem h (fun M19_ h20_ => ?_)
    refine z_aload_n hX dX10_primary_96 rfl 97 rfl ?_
    obtain ⟨M21_, hq, h22_⟩ := zcV_of h20_
    refine z_callV hX vX10_token lX10_214 dX10_primary_97 zs_98 rfl (mX10_token  hq) (by omega) rfl rfl (Nat.le_of_ble_eq_true rfl) 100 rfl (Qv.to (fun M' hv => ?_))
    subst hv
    exact z_return hX dX10_primary_100 (zend_v h22_)
  · rw [if_neg hc] at h
    exact z_return hX dX10_primary_85 (zend_v h)
def gX10_primary_J31 (F : Nat → zM → Option zM) (M : zM) : Option zM :=
  (if (M.1 98 26) = 0 then zlet (zI M 98 30 ((M.1 98 30) + 1)) (fun M13_ => zcV (gX10_token M13_) (fun M15_ => zcV (F 0 M15_) (fun M17_ => (if (M17_.1 98 26) = 0 then zcI (gX10_isSign 41 M17_) (fun v23_ => (if v23_ = 0 then zcV (gX10_wrong 1 M17_) (fun M25_ => gX10_primary_J78 F M25_)
  else gX10_primary_J78 F M17_))
  else gX10_primary_J78 F M17_))))
  else some M)
set_option maxRecDepth 100000 in
set_option maxHeartbeats 2000000 in
theorem aX10_primary_J31 {G : zG} {X : zX} {k : Nat} {F : Nat → zM → Option zM} (hX : zC G X cX10_primary 2 RX10 none (8 + (k + 1))) (hF0 : ∀  (M res : zM), F 0  M = some res → Ct G (8 + k) tX10_expression [.ref 98] M (zQv res)) (hF1 : ∀  (M res : zM), F 1  M = some res → Ct G (8 + k) tX10_conjunction [.ref 98] M (zQv res)) (hF2 : ∀  (M res : zM), F 2  M = some res → Ct G (8 + k) tX10_negation [.ref 98] M (zQv res)) (hF3 : ∀  (M res : zM), F 3  M = some res → Ct G (8 + k) tX10_sum [.ref 98] M (zQv res)) (hF4 : ∀  (M res : zM), F 4  M = some res → Ct G (8 + k) tX10_product [.ref 98] M (zQv res)) (hF5 : ∀  (M res : zM), F 5  M = some res → Ct G (8 + k) tX10_primary [.ref 98] M (zQv res))  {M : zM} {res : zM}  (h : gX10_primary_J31 F M = some res) : Z G X (zQv res) 31 [some (.ref 98), none] [] M := by
  unfold gX10_primary_J31 at h
  refine z_aload_n hX dX10_primary_31 rfl 32 rfl ?_
  refine z_getI hX fX10_208 dX10_primary_32 zs_98 (by decide) rfl 35 rfl ?_
  refine z_if_eq hX dX10_primary_35 39 38 (by decide) rfl (fun hc => ?_) (fun hc => ?_)
  · rw [if_pos hc] at h
    refine z_aload_n hX dX10_primary_39 rfl 40 rfl ?_
    refine z_dup hX dX10_primary_40 rfl 41 rfl ?_
    refine z_getI hX fX10_291 dX10_primary_41 zs_98 (by decide) rfl 44 rfl ?_
    refine z_iconst hX dX10_primary_44 qi_1 45 rfl ?_
    refine z_iadd hX dX10_primary_45 46 rfl ?_
    refine z_putI hX pX10_291 dX10_primary_46 zs_98 (by decide) rfl 49 rfl ?_
    refine z_mem h (fun M13_ h14_ => ?_)
    refine z_aload_n hX dX10_primary_49 rfl 50 rfl ?_
    obtain ⟨M15_, hq, h16_⟩ := zcV_of h14_
    refine z_callV hX vX10_token lX10_214 dX10_primary_50 zs_98 rfl (mX10_token  hq) (by omega) rfl rfl (Nat.le_of_ble_eq_true rfl) 53 rfl (Qv.to (fun M' hv => ?_))
    subst hv
    refine z_aload_n hX dX10_primary_53 rfl 54 rfl ?_
    obtain ⟨M17_, hq, h18_⟩ := zcV_of h16_
    refine z_callV hX vX10_expression lX10_261 dX10_primary_54 zs_98 rfl (hF0 _ _ hq) (by omega) rfl rfl (Nat.le_of_ble_eq_true rfl) 57 rfl (Qv.to (fun M' hv => ?_))
    subst hv
    refine z_aload_n hX dX10_primary_57 rfl 58 rfl ?_
    refine z_getI hX fX10_208 dX10_primary_58 zs_98 (by decide) rfl 61 rfl ?_
    refine z_if_ne hX dX10_primary_61 78 64 (by decide) rfl (fun hc => ?_) (fun hc => ?_)
    · rw [if_neg hc] at h18_
      refine z_mask [true, false] ?_
      have hz := aX10_primary_J78 hX hF0 hF1 hF2 hF3 hF4 hF5 h18_
      exact hz
    · rw [if_pos hc] at h18_
      refine z_aload_n hX dX10_primary_64 rfl 65 rfl ?_
      refine z_bipush hX dX10_primary_65 qb_41 67 rfl ?_
      obtain ⟨v23_, hq, h24_⟩ := zcI_of h18_
      refine z_callV hX vX10_isSign lX10_255 dX10_primary_67 zs_98 rfl (mX10_isSign  hq) (by omega) rfl rfl (Nat.le_of_ble_eq_true rfl) 70 rfl (Qi.to (fun v' M' hv => ?_))
      obtain ⟨rfl, rfl⟩ := hv
      refine z_if_ne hX dX10_primary_70 78 73 (by decide) rfl (fun hc => ?_) (fun hc => ?_)
      · rw [if_neg hc] at h24_
        refine z_mask [true, false] ?_
        have hz := aX10_primary_J78 hX hF0 hF1 hF2 hF3 hF4 hF5 h24_
        exact hz
      · rw [if_pos hc] at h24_
        refine z_aload_n hX dX10_primary_73 rfl 74 rfl ?_
        refine z_iconst hX dX10_primary_74 qi_1 75 rfl ?_
        obtain ⟨M25_, hq, h26_⟩ := zcV_of h24_
        refine z_callV hX vX10_wrong lX10_217 dX10_primary_75 zs_98 rfl (mX10_wrong  hq) (by omega) rfl rfl (Nat.le_of_ble_eq_true rfl) 78 rfl (Qv.to (fun M' hv => ?_))
        subst hv
        refine z_mask [true, false] ?_
        have hz := aX10_primary_J78 hX hF0 hF1 hF2 hF3 hF4 hF5 h26_
        exact hz
  · rw [if_neg hc] at h
    exact z_return hX dX10_primary_38 (zend_v h)
def bX10_primary (F : Nat → zM → Option zM) (M : zM) : Option zM :=
  (if (M.1 98 26) = 0 then zcI (gX10_isSign 40 M) (fun v1_ => (if v1_ = 0 then (if (M.1 98 24) = 2 then gX10_primary_J114 F 1 M
  else gX10_primary_J114 F 0 M)
  else (if (M.1 98 30) = 8 then zcV (gX10_wrong 2 M) (fun M27_ => gX10_primary_J31 F M27_)
  else gX10_primary_J31 F M)))
  else some M)
set_option maxRecDepth 100000 in
set_option maxHeartbeats 2000000 in
theorem nX10_primary {G : zG} {k : Nat} {F : Nat → zM → Option zM}  {M : zM} (hF0 : ∀  (M res : zM), F 0  M = some res → Ct G (8 + k) tX10_expression [.ref 98] M (zQv res)) (hF1 : ∀  (M res : zM), F 1  M = some res → Ct G (8 + k) tX10_conjunction [.ref 98] M (zQv res)) (hF2 : ∀  (M res : zM), F 2  M = some res → Ct G (8 + k) tX10_negation [.ref 98] M (zQv res)) (hF3 : ∀  (M res : zM), F 3  M = some res → Ct G (8 + k) tX10_sum [.ref 98] M (zQv res)) (hF4 : ∀  (M res : zM), F 4  M = some res → Ct G (8 + k) tX10_product [.ref 98] M (zQv res)) (hF5 : ∀  (M res : zM), F 5  M = some res → Ct G (8 + k) tX10_primary [.ref 98] M (zQv res)) {res : zM} (h : bX10_primary F M = some res) : Ct G (8 + (k + 1)) tX10_primary [.ref 98] M (zQv res) := by
  unfold bX10_primary at h
  refine Ct.of (y := yX10_primary) rfl plX10 (Nat.le_of_ble_eq_true rfl) (fun X hX => ?_)
  replace hX : zC G X cX10_primary 2 RX10 none (8 + (k + 1)) := hX
  show Z G X _ 0 [some (.ref 98), none] [] M
  refine z_aload_n hX dX10_primary_0 rfl 1 rfl ?_
  refine z_getI hX fX10_208 dX10_primary_1 zs_98 (by decide) rfl 4 rfl ?_
  refine z_if_eq hX dX10_primary_4 8 7 (by decide) rfl (fun hc => ?_) (fun hc => ?_)
  · rw [if_pos hc] at h
    refine z_aload_n hX dX10_primary_8 rfl 9 rfl ?_
    refine z_bipush hX dX10_primary_9 qb_40 11 rfl ?_
    obtain ⟨v1_, hq, h2_⟩ := zcI_of h
    refine z_callV hX vX10_isSign lX10_255 dX10_primary_11 zs_98 rfl (mX10_isSign  hq) (by omega) rfl rfl (Nat.le_of_ble_eq_true rfl) 14 rfl (Qi.to (fun v' M' hv => ?_))
    obtain ⟨rfl, rfl⟩ := hv
    refine z_if_eq hX dX10_primary_14 101 17 (by decide) rfl (fun hc => ?_) (fun hc => ?_)
    · rw [if_pos hc] at h2_
      refine z_aload_n hX dX10_primary_101 rfl 102 rfl ?_
      refine z_getI hX fX10_173 dX10_primary_102 zs_98 (by decide) rfl 105 rfl ?_
      refine z_iconst hX dX10_primary_105 qi_2 106 rfl ?_
      refine z_icmp_ne hX dX10_primary_106 113 109 (by decide) rfl (fun hc => ?_) (fun hc => ?_)
      · rw [if_neg hc] at h2_
        refine z_iconst hX dX10_primary_113 qi_0 114 rfl ?_
        refine z_mask [true, false] ?_
        have hz := aX10_primary_J114 hX hF0 hF1 hF2 hF3 hF4 hF5 h2_
        exact hz
      · rw [if_pos hc] at h2_
        refine z_iconst hX dX10_primary_109 qi_1 110 rfl ?_
        refine z_goto hX dX10_primary_110 114 (by decide) ?_
        refine z_mask [true, false] ?_
        have hz := aX10_primary_J114 hX hF0 hF1 hF2 hF3 hF4 hF5 h2_
        exact hz
    · rw [if_neg hc] at h2_
      refine z_aload_n hX dX10_primary_17 rfl 18 rfl ?_
      refine z_getI hX fX10_291 dX10_primary_18 zs_98 (by decide) rfl 21 rfl ?_
      refine z_bipush hX dX10_primary_21 qb_8 23 rfl ?_
      refine z_icmp_ne hX dX10_primary_23 31 26 (by decide) rfl (fun hc => ?_) (fun hc => ?_)
      · rw [if_neg hc] at h2_
        refine z_mask [true, false] ?_
        have hz := aX10_primary_J31 hX hF0 hF1 hF2 hF3 hF4 hF5 h2_
        exact hz
      · rw [if_pos hc] at h2_
        refine z_aload_n hX dX10_primary_26 rfl 27 rfl ?_
        refine z_iconst hX dX10_primary_27 qi_2 28 rfl ?_
        obtain ⟨M27_, hq, h28_⟩ := zcV_of h2_
        refine z_callV hX vX10_wrong lX10_217 dX10_primary_28 zs_98 rfl (mX10_wrong  hq) (by omega) rfl rfl (Nat.le_of_ble_eq_true rfl) 31 rfl (Qv.to (fun M' hv => ?_))
        subst hv
        refine z_mask [true, false] ?_
        have hz := aX10_primary_J31 hX hF0 hF1 hF2 hF3 hF4 hF5 h28_
        exact hz
  · rw [if_neg hc] at h
    exact z_return hX dX10_primary_7 (zend_v h)
def gGE : Nat → Nat → zM → Option zM
  | 0, _, _ => none
  | k + 1, t, M => if t = 0 then bX10_expression (gGE k)  M else if t = 1 then bX10_conjunction (gGE k)  M else if t = 2 then bX10_negation (gGE k)  M else if t = 3 then bX10_sum (gGE k)  M else if t = 4 then bX10_product (gGE k)  M else if t = 5 then bX10_primary (gGE k)  M else none
set_option maxRecDepth 100000 in
set_option maxHeartbeats 2000000 in
theorem mGE {G : zG} : ∀ k : Nat, (∀  (M res : zM), gGE k 0 M = some res → Ct G (8 + k) tX10_expression [.ref 98] M (zQv res)) ∧ (∀  (M res : zM), gGE k 1 M = some res → Ct G (8 + k) tX10_conjunction [.ref 98] M (zQv res)) ∧ (∀  (M res : zM), gGE k 2 M = some res → Ct G (8 + k) tX10_negation [.ref 98] M (zQv res)) ∧ (∀  (M res : zM), gGE k 3 M = some res → Ct G (8 + k) tX10_sum [.ref 98] M (zQv res)) ∧ (∀  (M res : zM), gGE k 4 M = some res → Ct G (8 + k) tX10_product [.ref 98] M (zQv res)) ∧ (∀  (M res : zM), gGE k 5 M = some res → Ct G (8 + k) tX10_primary [.ref 98] M (zQv res)) := by
  intro k
  induction k with
  | zero =>
    exact ⟨fun _ _ h => (by cases h), fun _ _ h => (by cases h), fun _ _ h => (by cases h), fun _ _ h => (by cases h), fun _ _ h => (by cases h), fun _ _ h => (by cases h)⟩
  | succ k ih =>
    exact ⟨fun _ _ h => nX10_expression ih.1 ih.2.1 ih.2.2.1 ih.2.2.2.1 ih.2.2.2.2.1 ih.2.2.2.2.2 h, fun _ _ h => nX10_conjunction ih.1 ih.2.1 ih.2.2.1 ih.2.2.2.1 ih.2.2.2.2.1 ih.2.2.2.2.2 h, fun _ _ h => nX10_negation ih.1 ih.2.1 ih.2.2.1 ih.2.2.2.1 ih.2.2.2.2.1 ih.2.2.2.2.2 h, fun _ _ h => nX10_sum ih.1 ih.2.1 ih.2.2.1 ih.2.2.2.1 ih.2.2.2.2.1 ih.2.2.2.2.2 h, fun _ _ h => nX10_product ih.1 ih.2.1 ih.2.2.1 ih.2.2.2.1 ih.2.2.2.2.1 ih.2.2.2.2.2 h, fun _ _ h => nX10_primary ih.1 ih.2.1 ih.2.2.1 ih.2.2.2.1 ih.2.2.2.2.1 ih.2.2.2.2.2 h⟩
theorem mX10_expression {G : zG} (k : Nat) : ∀  (M res : zM), gGE k 0 M = some res → Ct G (8 + k) tX10_expression [.ref 98] M (zQv res) := (mGE k).1
theorem mX10_conjunction {G : zG} (k : Nat) : ∀  (M res : zM), gGE k 1 M = some res → Ct G (8 + k) tX10_conjunction [.ref 98] M (zQv res) := (mGE k).2.1
theorem mX10_negation {G : zG} (k : Nat) : ∀  (M res : zM), gGE k 2 M = some res → Ct G (8 + k) tX10_negation [.ref 98] M (zQv res) := (mGE k).2.2.1
theorem mX10_sum {G : zG} (k : Nat) : ∀  (M res : zM), gGE k 3 M = some res → Ct G (8 + k) tX10_sum [.ref 98] M (zQv res) := (mGE k).2.2.2.1
theorem mX10_product {G : zG} (k : Nat) : ∀  (M res : zM), gGE k 4 M = some res → Ct G (8 + k) tX10_product [.ref 98] M (zQv res) := (mGE k).2.2.2.2.1
theorem mX10_primary {G : zG} (k : Nat) : ∀  (M res : zM), gGE k 5 M = some res → Ct G (8 + k) tX10_primary [.ref 98] M (zQv res) := (mGE k).2.2.2.2.2
def gX10_lawLine_J65 (x1 : Int32) (M : zM) : Option zM :=
  (if (M.1 98 26) = 0 then zlet (zI M 98 19 ((M.1 98 19) ||| ((1 : Int32) <<< (((16 + x1) : Int32) &&& 31)))) (fun M3_ => zcV (gX10_token M3_) (fun M5_ => zcI (gX10_fresher 8 M5_) (fun v7_ => zg (zok (3 + x1) 6) (zlet (zI M5_ 112 ((3 + x1) : Int32).toNatClampNeg v7_) (fun M10_ => zcV (gGE 200 0 M10_) (fun M12_ => zcI (gX10_fresher 8 M12_) (fun v14_ => zg (zok (3 + x1) 6) (zlet (zI M12_ 113 ((3 + x1) : Int32).toNatClampNeg v14_) (fun M17_ => some M17_)))))))))
  else some M)
set_option maxRecDepth 100000 in
set_option maxHeartbeats 2000000 in
theorem aX10_lawLine_J65 {G : zG} {X : zX} {x1 : Int32} (hX : zC G X cX10_lawLine 2 RX10 none 209)   {M : zM} {res : zM}  (h : gX10_lawLine_J65 x1 M = some res) : Z G X (zQv res) 65 [some (.ref 98), some (.int x1)] [] M := by
  unfold gX10_lawLine_J65 at h
  refine z_aload_n hX dX10_lawLine_65 rfl 66 rfl ?_
  refine z_getI hX fX10_208 dX10_lawLine_66 zs_98 (by decide) rfl 69 rfl ?_
  refine z_if_eq hX dX10_lawLine_69 73 72 (by decide) rfl (fun hc => ?_) (fun hc => ?_)
  · rw [if_pos hc] at h
    refine z_aload_n hX dX10_lawLine_73 rfl 74 rfl ?_
    refine z_dup hX dX10_lawLine_74 rfl 75 rfl ?_
    refine z_getI hX fX10_234 dX10_lawLine_75 zs_98 (by decide) rfl 78 rfl ?_
    refine z_iconst hX dX10_lawLine_78 qi_1 79 rfl ?_
    refine z_bipush hX dX10_lawLine_79 qb_16 81 rfl ?_
    refine z_iload_n hX dX10_lawLine_81 rfl 82 rfl ?_
    refine z_iadd hX dX10_lawLine_82 83 rfl ?_
    refine z_ishl hX dX10_lawLine_83 84 rfl ?_
    refine z_ior hX dX10_lawLine_84 85 rfl ?_
    refine z_putI hX pX10_234 dX10_lawLine_85 zs_98 (by decide) rfl 88 rfl ?_
    refine z_mem h (fun M3_ h4_ => ?_)
    refine z_aload_n hX dX10_lawLine_88 rfl 89 rfl ?_
    obtain ⟨M5_, hq, h6_⟩ := zcV_of h4_
    refine z_callV hX vX10_token lX10_214 dX10_lawLine_89 zs_98 rfl (mX10_token  hq) (by decide) rfl rfl (Nat.le_of_ble_eq_true rfl) 92 rfl (Qv.to (fun M' hv => ?_))
    subst hv
    refine z_aload_n hX dX10_lawLine_92 rfl 93 rfl ?_
    refine z_getF hX fX10_49 dX10_lawLine_93 zs_98 (by decide) rfl 96 rfl ?_
    refine z_iconst hX dX10_lawLine_96 qi_3 97 rfl ?_
    refine z_iload_n hX dX10_lawLine_97 rfl 98 rfl ?_
    refine z_iadd hX dX10_lawLine_98 99 rfl ?_
    refine z_aload_n hX dX10_lawLine_99 rfl 100 rfl ?_
    refine z_bipush hX dX10_lawLine_100 qb_8 102 rfl ?_
    obtain ⟨v7_, hq, h8_⟩ := zcI_of h6_
    refine z_callV hX vX10_fresher lX10_224 dX10_lawLine_102 zs_98 rfl (mX10_fresher  hq) (by decide) rfl rfl (Nat.le_of_ble_eq_true rfl) 105 rfl (Qi.to (fun v' M' hv => ?_))
    obtain ⟨rfl, rfl⟩ := hv
    obtain ⟨hb, h9_⟩ := zgd h8_
    refine z_iast hX dX10_lawLine_105 zs_112 (zok_in hb) 106 rfl ?_
    refine z_mem h9_ (fun M10_ h11_ => ?_)
    refine z_aload_n hX dX10_lawLine_106 rfl 107 rfl ?_
    obtain ⟨M12_, hq, h13_⟩ := zcV_of h11_
    refine z_callV hX vX10_expression lX10_261 dX10_lawLine_107 zs_98 rfl (mX10_expression 200 _ _ hq) (by decide) rfl rfl (Nat.le_of_ble_eq_true rfl) 110 rfl (Qv.to (fun M' hv => ?_))
    subst hv
    refine z_aload_n hX dX10_lawLine_110 rfl 111 rfl ?_
    refine z_getF hX fX10_52 dX10_lawLine_111 zs_98 (by decide) rfl 114 rfl ?_
    refine z_iconst hX dX10_lawLine_114 qi_3 115 rfl ?_
    refine z_iload_n hX dX10_lawLine_115 rfl 116 rfl ?_
    refine z_iadd hX dX10_lawLine_116 117 rfl ?_
    refine z_aload_n hX dX10_lawLine_117 rfl 118 rfl ?_
    refine z_bipush hX dX10_lawLine_118 qb_8 120 rfl ?_
    obtain ⟨v14_, hq, h15_⟩ := zcI_of h13_
    refine z_callV hX vX10_fresher lX10_224 dX10_lawLine_120 zs_98 rfl (mX10_fresher  hq) (by decide) rfl rfl (Nat.le_of_ble_eq_true rfl) 123 rfl (Qi.to (fun v' M' hv => ?_))
    obtain ⟨rfl, rfl⟩ := hv
    obtain ⟨hb, h16_⟩ := zgd h15_
    refine z_iast hX dX10_lawLine_123 zs_113 (zok_in hb) 124 rfl ?_
    refine z_mem h16_ (fun M17_ h18_ => ?_)
    exact z_return hX dX10_lawLine_124 (zend_v h18_)
  · rw [if_neg hc] at h
    exact z_return hX dX10_lawLine_72 (zend_v h)
def gX10_lawLine_J30 (M : zM) : Option zM :=
  (if (M.1 98 26) = 0 then (if ((((M.1 98 19) : Int32) >>> (((16 + ((M.1 98 25) - 9)) : Int32) &&& 31)) &&& 1) = 1 then zcV (gX10_wrong 3 M) (fun M19_ => gX10_lawLine_J65 ((M.1 98 25) - 9) M19_)
  else gX10_lawLine_J65 ((M.1 98 25) - 9) M)
  else gX10_lawLine_J65 ((M.1 98 25) - 9) M)
set_option maxRecDepth 100000 in
set_option maxHeartbeats 2000000 in
theorem aX10_lawLine_J30 {G : zG} {X : zX} (hX : zC G X cX10_lawLine 2 RX10 none 209)   {M : zM} {res : zM}  (h : gX10_lawLine_J30 M = some res) : Z G X (zQv res) 30 [some (.ref 98), none] [] M := by
  unfold gX10_lawLine_J30 at h
  refine z_aload_n hX dX10_lawLine_30 rfl 31 rfl ?_
  refine z_getI hX fX10_183 dX10_lawLine_31 zs_98 (by decide) rfl 34 rfl ?_
  refine z_bipush hX dX10_lawLine_34 qb_9 36 rfl ?_
  refine z_isub hX dX10_lawLine_36 37 rfl ?_
  refine z_istore_n hX dX10_lawLine_37 (by decide) 38 rfl ?_
  refine z_aload_n hX dX10_lawLine_38 rfl 39 rfl ?_
  refine z_getI hX fX10_208 dX10_lawLine_39 zs_98 (by decide) rfl 42 rfl ?_
  refine z_if_ne hX dX10_lawLine_42 65 45 (by decide) rfl (fun hc => ?_) (fun hc => ?_)
  · rw [if_neg hc] at h
    refine z_mask [true, true] ?_
    have hz := aX10_lawLine_J65 hX h
    exact hz
  · rw [if_pos hc] at h
    refine z_aload_n hX dX10_lawLine_45 rfl 46 rfl ?_
    refine z_getI hX fX10_234 dX10_lawLine_46 zs_98 (by decide) rfl 49 rfl ?_
    refine z_bipush hX dX10_lawLine_49 qb_16 51 rfl ?_
    refine z_iload_n hX dX10_lawLine_51 rfl 52 rfl ?_
    refine z_iadd hX dX10_lawLine_52 53 rfl ?_
    refine z_ishr hX dX10_lawLine_53 54 rfl ?_
    refine z_iconst hX dX10_lawLine_54 qi_1 55 rfl ?_
    refine z_iand hX dX10_lawLine_55 56 rfl ?_
    refine z_iconst hX dX10_lawLine_56 qi_1 57 rfl ?_
    refine z_icmp_ne hX dX10_lawLine_57 65 60 (by decide) rfl (fun hc => ?_) (fun hc => ?_)
    · rw [if_neg hc] at h
      refine z_mask [true, true] ?_
      have hz := aX10_lawLine_J65 hX h
      exact hz
    · rw [if_pos hc] at h
      refine z_aload_n hX dX10_lawLine_60 rfl 61 rfl ?_
      refine z_iconst hX dX10_lawLine_61 qi_3 62 rfl ?_
      obtain ⟨M19_, hq, h20_⟩ := zcV_of h
      refine z_callV hX vX10_wrong lX10_217 dX10_lawLine_62 zs_98 rfl (mX10_wrong  hq) (by decide) rfl rfl (Nat.le_of_ble_eq_true rfl) 65 rfl (Qv.to (fun M' hv => ?_))
      subst hv
      refine z_mask [true, true] ?_
      have hz := aX10_lawLine_J65 hX h20_
      exact hz
def gX10_lawLine_J25 (M : zM) : Option zM :=
  zcV (gX10_wrong 1 M) (fun M1_ => gX10_lawLine_J30 M1_)
set_option maxRecDepth 100000 in
set_option maxHeartbeats 2000000 in
theorem aX10_lawLine_J25 {G : zG} {X : zX} (hX : zC G X cX10_lawLine 2 RX10 none 209)   {M : zM} {res : zM}  (h : gX10_lawLine_J25 M = some res) : Z G X (zQv res) 25 [some (.ref 98), none] [] M := by
  unfold gX10_lawLine_J25 at h
  refine z_aload_n hX dX10_lawLine_25 rfl 26 rfl ?_
  refine z_iconst hX dX10_lawLine_26 qi_1 27 rfl ?_
  obtain ⟨M1_, hq, h2_⟩ := zcV_of h
  refine z_callV hX vX10_wrong lX10_217 dX10_lawLine_27 zs_98 rfl (mX10_wrong  hq) (by decide) rfl rfl (Nat.le_of_ble_eq_true rfl) 30 rfl (Qv.to (fun M' hv => ?_))
  subst hv
  refine z_mask [true, false] ?_
  have hz := aX10_lawLine_J30 hX h2_
  exact hz
def gX10_lawLine (M : zM) : Option zM :=
  (if (M.1 98 24) = 0 then (if (M.1 98 25) < 9 then gX10_lawLine_J25 M
  else (if (M.1 98 25) ≤ 11 then gX10_lawLine_J30 M
  else gX10_lawLine_J25 M))
  else gX10_lawLine_J25 M)
set_option maxRecDepth 100000 in
set_option maxHeartbeats 2000000 in
theorem mX10_lawLine {G : zG}  {M : zM}  {res : zM} (h : gX10_lawLine M = some res) : Ct G 209 tX10_lawLine [.ref 98] M (zQv res) := by
  unfold gX10_lawLine at h
  refine Ct.of (y := yX10_lawLine) rfl plX10 (Nat.le_of_ble_eq_true rfl) (fun X hX => ?_)
  replace hX : zC G X cX10_lawLine 2 RX10 none 209 := hX
  show Z G X _ 0 [some (.ref 98), none] [] M
  refine z_aload_n hX dX10_lawLine_0 rfl 1 rfl ?_
  refine z_getI hX fX10_173 dX10_lawLine_1 zs_98 (by decide) rfl 4 rfl ?_
  refine z_if_ne hX dX10_lawLine_4 25 7 (by decide) rfl (fun hc => ?_) (fun hc => ?_)
  · rw [if_neg hc] at h
    refine z_mask [true, false] ?_
    have hz := aX10_lawLine_J25 hX h
    exact hz
  · rw [if_pos hc] at h
    refine z_aload_n hX dX10_lawLine_7 rfl 8 rfl ?_
    refine z_getI hX fX10_183 dX10_lawLine_8 zs_98 (by decide) rfl 11 rfl ?_
    refine z_bipush hX dX10_lawLine_11 qb_9 13 rfl ?_
    refine z_icmp_lt hX dX10_lawLine_13 25 16 (by decide) rfl (fun hc => ?_) (fun hc => ?_)
    · rw [if_pos hc] at h
      refine z_mask [true, false] ?_
      have hz := aX10_lawLine_J25 hX h
      exact hz
    · rw [if_neg hc] at h
      refine z_aload_n hX dX10_lawLine_16 rfl 17 rfl ?_
      refine z_getI hX fX10_183 dX10_lawLine_17 zs_98 (by decide) rfl 20 rfl ?_
      refine z_bipush hX dX10_lawLine_20 qb_11 22 rfl ?_
      refine z_icmp_le hX dX10_lawLine_22 30 25 (by decide) rfl (fun hc => ?_) (fun hc => ?_)
      · rw [if_pos hc] at h
        refine z_mask [true, false] ?_
        have hz := aX10_lawLine_J30 hX h
        exact hz
      · rw [if_neg hc] at h
        refine z_mask [true, false] ?_
        have hz := aX10_lawLine_J25 hX h
        exact hz
def gX10_line_J16 (M : zM) : Option zM :=
  zcV (gX10_wrong 1 M) (fun M1_ => some M1_)
set_option maxRecDepth 100000 in
set_option maxHeartbeats 2000000 in
theorem aX10_line_J16 {G : zG} {X : zX} (hX : zC G X cX10_line 5 RX10 none 210)   {M : zM} {res : zM}  (h : gX10_line_J16 M = some res) : Z G X (zQv res) 16 [some (.ref 98), none, none, none, none] [] M := by
  unfold gX10_line_J16 at h
  refine z_aload_n hX dX10_line_16 rfl 17 rfl ?_
  refine z_iconst hX dX10_line_17 qi_1 18 rfl ?_
  obtain ⟨M1_, hq, h2_⟩ := zcV_of h
  refine z_callV hX vX10_wrong lX10_217 dX10_line_18 zs_98 rfl (mX10_wrong  hq) (by decide) rfl rfl (Nat.le_of_ble_eq_true rfl) 21 rfl (Qv.to (fun M' hv => ?_))
  subst hv
  exact z_return hX dX10_line_21 (zend_v h2_)
def gX10_line_J487 (M : zM) : Option zM :=
  zlet (zI M 98 20 ((M.1 98 20) + 1)) (fun M45_ => some M45_)
set_option maxRecDepth 100000 in
set_option maxHeartbeats 2000000 in
theorem aX10_line_J487 {G : zG} {X : zX} (hX : zC G X cX10_line 5 RX10 none 210)   {M : zM} {res : zM}  (h : gX10_line_J487 M = some res) : Z G X (zQv res) 487 [some (.ref 98), none, none, none, none] [] M := by
  unfold gX10_line_J487 at h
  refine z_aload_n hX dX10_line_487 rfl 488 rfl ?_
  refine z_dup hX dX10_line_488 rfl 489 rfl ?_
  refine z_getI hX fX10_258 dX10_line_489 zs_98 (by decide) rfl 492 rfl ?_
  refine z_iconst hX dX10_line_492 qi_1 493 rfl ?_
  refine z_iadd hX dX10_line_493 494 rfl ?_
  refine z_putI hX pX10_258 dX10_line_494 zs_98 (by decide) rfl 497 rfl ?_
  refine z_mem h (fun M45_ h46_ => ?_)
  exact z_return hX dX10_line_497 (zend_v h46_)
def gX10_line_J458 (M : zM) : Option zM :=
  (if (M.1 98 26) = 0 then zcI (gX10_isSign 59 M) (fun v41_ => (if v41_ = 0 then zcV (gX10_wrong 1 M) (fun M47_ => gX10_line_J487 M47_)
  else zcV (gX10_token M) (fun M43_ => gX10_line_J487 M43_)))
  else some M)
set_option maxRecDepth 100000 in
set_option maxHeartbeats 2000000 in
theorem aX10_line_J458 {G : zG} {X : zX} (hX : zC G X cX10_line 5 RX10 none 210)   {M : zM} {res : zM}  (h : gX10_line_J458 M = some res) : Z G X (zQv res) 458 [some (.ref 98), none, none, none, none] [] M := by
  unfold gX10_line_J458 at h
  refine z_aload_n hX dX10_line_458 rfl 459 rfl ?_
  refine z_getI hX fX10_208 dX10_line_459 zs_98 (by decide) rfl 462 rfl ?_
  refine z_if_eq hX dX10_line_462 466 465 (by decide) rfl (fun hc => ?_) (fun hc => ?_)
  · rw [if_pos hc] at h
    refine z_aload_n hX dX10_line_466 rfl 467 rfl ?_
    refine z_bipush hX dX10_line_467 qb_59 469 rfl ?_
    obtain ⟨v41_, hq, h42_⟩ := zcI_of h
    refine z_callV hX vX10_isSign lX10_255 dX10_line_469 zs_98 rfl (mX10_isSign  hq) (by decide) rfl rfl (Nat.le_of_ble_eq_true rfl) 472 rfl (Qi.to (fun v' M' hv => ?_))
    obtain ⟨rfl, rfl⟩ := hv
    refine z_if_ne hX dX10_line_472 483 475 (by decide) rfl (fun hc => ?_) (fun hc => ?_)
    · rw [if_neg hc] at h42_
      refine z_aload_n hX dX10_line_483 rfl 484 rfl ?_
      obtain ⟨M43_, hq, h44_⟩ := zcV_of h42_
      refine z_callV hX vX10_token lX10_214 dX10_line_484 zs_98 rfl (mX10_token  hq) (by decide) rfl rfl (Nat.le_of_ble_eq_true rfl) 487 rfl (Qv.to (fun M' hv => ?_))
      subst hv
      refine z_mask [true, false, false, false, false] ?_
      have hz := aX10_line_J487 hX h44_
      exact hz
    · rw [if_pos hc] at h42_
      refine z_aload_n hX dX10_line_475 rfl 476 rfl ?_
      refine z_iconst hX dX10_line_476 qi_1 477 rfl ?_
      obtain ⟨M47_, hq, h48_⟩ := zcV_of h42_
      refine z_callV hX vX10_wrong lX10_217 dX10_line_477 zs_98 rfl (mX10_wrong  hq) (by decide) rfl rfl (Nat.le_of_ble_eq_true rfl) 480 rfl (Qv.to (fun M' hv => ?_))
      subst hv
      refine z_goto hX dX10_line_480 487 (by decide) ?_
      refine z_mask [true, false, false, false, false] ?_
      have hz := aX10_line_J487 hX h48_
      exact hz
  · rw [if_neg hc] at h
    exact z_return hX dX10_line_465 (zend_v h)
def gX10_line_J71 (x1 : Int32) (M : zM) : Option zM :=
  (if (M.1 98 26) = 0 then zlet (zI M 98 19 ((M.1 98 19) ||| ((1 : Int32) <<< ((x1 : Int32) &&& 31)))) (fun M5_ => zcV (gX10_token M5_) (fun M7_ => (if x1 = 0 then zcI (gX10_fresher 0 M7_) (fun v9_ => zcI (gX10_fresher 0 M7_) (fun v11_ => zcIM (gX10_fresh 101 12 6 v11_ M7_) (fun v13_ M14_ => zg (zok (6 + v9_) 12) (zlet (zI M14_ 101 ((6 + v9_) : Int32).toNatClampNeg v13_) (fun M17_ => zcIM (gX10_numeral 0 99 M17_) (fun v19_ M20_ => zg (zok (6 + v9_) 12) (zlet (zI M20_ 102 ((6 + v9_) : Int32).toNatClampNeg v19_) (fun M23_ => zcIM (gX10_numeral 0 99 M23_) (fun v25_ M26_ => zg (zok (6 + v9_) 12) (zlet (zI M26_ 103 ((6 + v9_) : Int32).toNatClampNeg v25_) (fun M29_ => zcIM (gX10_numeral 1 9 M29_) (fun v31_ M32_ => zg (zok (6 + v9_) 12) (zlet (zI M32_ 104 ((6 + v9_) : Int32).toNatClampNeg v31_) (fun M35_ => zcI (gX10_fresher 0 M35_) (fun v37_ => zcV (gX10_reads 0 (v37_ + 1) M35_) (fun M39_ => gX10_line_J458 M39_))))))))))))))))
  else if x1 = 1 then zcI (gX10_fresher 1 M7_) (fun v49_ => zcI (gX10_fresher 1 M7_) (fun v51_ => zcIM (gX10_fresh 105 16 8 v51_ M7_) (fun v53_ M54_ => zg (zok (8 + v49_) 16) (zlet (zI M54_ 105 ((8 + v49_) : Int32).toNatClampNeg v53_) (fun M57_ => zcIM (gX10_numeral 1 99 M57_) (fun v59_ M60_ => zg (zok (8 + v49_) 16) (zlet (zI M60_ 106 ((8 + v49_) : Int32).toNatClampNeg v59_) (fun M63_ => zcIM (gX10_numeral 1 6 M63_) (fun v65_ M66_ => zg (zok (8 + v49_) 16) (zlet (zI M66_ 107 ((8 + v49_) : Int32).toNatClampNeg v65_) (fun M69_ => zcIM (gX10_numeral 0 99 M69_) (fun v71_ M72_ => zg (zok (8 + v49_) 16) (zlet (zI M72_ 108 ((8 + v49_) : Int32).toNatClampNeg v71_) (fun M75_ => zcI (gX10_fresher 1 M75_) (fun v77_ => zcV (gX10_reads 1 (v77_ + 1) M75_) (fun M79_ => gX10_line_J458 M79_))))))))))))))))
  else if x1 = 2 then zcI (gX10_fresher 2 M7_) (fun v81_ => zcIM (gX10_manAhead M7_) (fun v83_ M84_ => zg (zok (10 + v81_) 20) (zlet (zI M84_ 109 ((10 + v81_) : Int32).toNatClampNeg v83_) (fun M87_ => zcIM (gX10_numeral 0 99 M87_) (fun v89_ M90_ => zg (zok (10 + v81_) 20) (zlet (zI M90_ 110 ((10 + v81_) : Int32).toNatClampNeg v89_) (fun M93_ => zcIM (gX10_numeral 1 99 M93_) (fun v95_ M96_ => zg (zok (10 + v81_) 20) (zlet (zI M96_ 111 ((10 + v81_) : Int32).toNatClampNeg v95_) (fun M99_ => zcI (gX10_fresher 2 M99_) (fun v101_ => zcV (gX10_reads 2 (v101_ + 1) M99_) (fun M103_ => gX10_line_J458 M103_))))))))))))
  else if x1 = 3 then zcIM (gX10_numeral 0 999 M7_) (fun v105_ M106_ => zcV (gX10_reads 3 v105_ M106_) (fun M108_ => gX10_line_J458 M108_))
  else if x1 = 4 then zcIM (gX10_numeral 0 9 M7_) (fun v110_ M111_ => zcV (gX10_reads 4 v110_ M111_) (fun M113_ => gX10_line_J458 M113_))
  else if x1 = 5 then zcIM (gX10_numeral 0 100 M7_) (fun v115_ M116_ => zcV (gX10_reads 5 v115_ M116_) (fun M118_ => gX10_line_J458 M118_))
  else if x1 = 6 then zcIM (gX10_numeral 0 100 M7_) (fun v120_ M121_ => zcV (gX10_reads 6 v120_ M121_) (fun M123_ => gX10_line_J458 M123_))
  else if x1 = 7 then zcIM (gX10_numeral 0 99999 M7_) (fun v125_ M126_ => zcV (gX10_reads 7 v125_ M126_) (fun M128_ => gX10_line_J458 M128_))
  else zcV (gX10_lawLine M7_) (fun M130_ => gX10_line_J458 M130_))))
  else some M)
set_option maxRecDepth 100000 in
set_option maxHeartbeats 2000000 in
theorem aX10_line_J71 {G : zG} {X : zX} {x1 : Int32} (hX : zC G X cX10_line 5 RX10 none 210)   {M : zM} {res : zM}  (h : gX10_line_J71 x1 M = some res) : Z G X (zQv res) 71 [some (.ref 98), some (.int x1), none, none, none] [] M := by
  unfold gX10_line_J71 at h
  refine z_aload_n hX dX10_line_71 rfl 72 rfl ?_
  refine z_getI hX fX10_208 dX10_line_72 zs_98 (by decide) rfl 75 rfl ?_
  refine z_if_eq hX dX10_line_75 79 78 (by decide) rfl (fun hc => ?_) (fun hc => ?_)
  · rw [if_pos hc] at h
    refine z_aload_n hX dX10_line_79 rfl 80 rfl ?_
    refine z_dup hX dX10_line_80 rfl 81 rfl ?_
    refine z_getI hX fX10_234 dX10_line_81 zs_98 (by decide) rfl 84 rfl ?_
    refine z_iconst hX dX10_line_84 qi_1 85 rfl ?_
    refine z_iload_n hX dX10_line_85 rfl 86 rfl ?_
    refine z_ishl hX dX10_line_86 87 rfl ?_
    refine z_ior hX dX10_line_87 88 rfl ?_
    refine z_putI hX pX10_234 dX10_line_88 zs_98 (by decide) rfl 91 rfl ?_
    refine z_mem h (fun M5_ h6_ => ?_)
    refine z_aload_n hX dX10_line_91 rfl 92 rfl ?_
    obtain ⟨M7_, hq, h8_⟩ := zcV_of h6_
    refine z_callV hX vX10_token lX10_214 dX10_line_92 zs_98 rfl (mX10_token  hq) (by decide) rfl rfl (Nat.le_of_ble_eq_true rfl) 95 rfl (Qv.to (fun M' hv => ?_))
    subst hv
    refine z_iload_n hX dX10_line_95 rfl 96 rfl ?_
    by_cases hc0 : x1 = 0
    · rw [if_pos hc0] at h8_
      refine z_tabIn hX dX10_line_96 (by rw [hc0]; decide) (by rw [hc0]; decide) (by rw [hc0]; rfl) 144 (by decide) ?_
      refine z_bipush hX dX10_line_144 qb_6 146 rfl ?_
      refine z_aload_n hX dX10_line_146 rfl 147 rfl ?_
      refine z_iconst hX dX10_line_147 qi_0 148 rfl ?_
      obtain ⟨v9_, hq, h10_⟩ := zcI_of h8_
      refine z_callV hX vX10_fresher lX10_224 dX10_line_148 zs_98 rfl (mX10_fresher  hq) (by decide) rfl rfl (Nat.le_of_ble_eq_true rfl) 151 rfl (Qi.to (fun v' M' hv => ?_))
      obtain ⟨rfl, rfl⟩ := hv
      refine z_iadd hX dX10_line_151 152 rfl ?_
      refine z_istore_n hX dX10_line_152 (by decide) 153 rfl ?_
      refine z_aload_n hX dX10_line_153 rfl 154 rfl ?_
      refine z_getF hX fX10_16 dX10_line_154 zs_98 (by decide) rfl 157 rfl ?_
      refine z_iload_n hX dX10_line_157 rfl 158 rfl ?_
      refine z_aload_n hX dX10_line_158 rfl 159 rfl ?_
      refine z_aload_n hX dX10_line_159 rfl 160 rfl ?_
      refine z_getF hX fX10_16 dX10_line_160 zs_98 (by decide) rfl 163 rfl ?_
      refine z_bipush hX dX10_line_163 qb_6 165 rfl ?_
      refine z_aload_n hX dX10_line_165 rfl 166 rfl ?_
      refine z_iconst hX dX10_line_166 qi_0 167 rfl ?_
      obtain ⟨v11_, hq, h12_⟩ := zcI_of h10_
      refine z_callV hX vX10_fresher lX10_224 dX10_line_167 zs_98 rfl (mX10_fresher  hq) (by decide) rfl rfl (Nat.le_of_ble_eq_true rfl) 170 rfl (Qi.to (fun v' M' hv => ?_))
      obtain ⟨rfl, rfl⟩ := hv
      obtain ⟨v13_, M14_, hq, h15_⟩ := zcIM_of h12_
      refine z_callV hX vX10_fresh lX10_237 dX10_line_170 zs_98 rfl (mX10_fresh zs_101 (by decide) hq) (by decide) rfl rfl (Nat.le_of_ble_eq_true rfl) 173 rfl (Qi.to (fun v' M' hv => ?_))
      cases hv
      obtain ⟨hb, h16_⟩ := zgd h15_
      refine z_iast hX dX10_line_173 zs_101 (zok_in hb) 174 rfl ?_
      refine z_mem h16_ (fun M17_ h18_ => ?_)
      refine z_aload_n hX dX10_line_174 rfl 175 rfl ?_
      refine z_getF hX fX10_19 dX10_line_175 zs_98 (by decide) rfl 178 rfl ?_
      refine z_iload_n hX dX10_line_178 rfl 179 rfl ?_
      refine z_aload_n hX dX10_line_179 rfl 180 rfl ?_
      refine z_iconst hX dX10_line_180 qi_0 181 rfl ?_
      refine z_bipush hX dX10_line_181 qb_99 183 rfl ?_
      obtain ⟨v19_, M20_, hq, h21_⟩ := zcIM_of h18_
      refine z_callV hX vX10_numeral lX10_241 dX10_line_183 zs_98 rfl (mX10_numeral  hq) (by decide) rfl rfl (Nat.le_of_ble_eq_true rfl) 186 rfl (Qi.to (fun v' M' hv => ?_))
      cases hv
      obtain ⟨hb, h22_⟩ := zgd h21_
      refine z_iast hX dX10_line_186 zs_102 (zok_in hb) 187 rfl ?_
      refine z_mem h22_ (fun M23_ h24_ => ?_)
      refine z_aload_n hX dX10_line_187 rfl 188 rfl ?_
      refine z_getF hX fX10_22 dX10_line_188 zs_98 (by decide) rfl 191 rfl ?_
      refine z_iload_n hX dX10_line_191 rfl 192 rfl ?_
      refine z_aload_n hX dX10_line_192 rfl 193 rfl ?_
      refine z_iconst hX dX10_line_193 qi_0 194 rfl ?_
      refine z_bipush hX dX10_line_194 qb_99 196 rfl ?_
      obtain ⟨v25_, M26_, hq, h27_⟩ := zcIM_of h24_
      refine z_callV hX vX10_numeral lX10_241 dX10_line_196 zs_98 rfl (mX10_numeral  hq) (by decide) rfl rfl (Nat.le_of_ble_eq_true rfl) 199 rfl (Qi.to (fun v' M' hv => ?_))
      cases hv
      obtain ⟨hb, h28_⟩ := zgd h27_
      refine z_iast hX dX10_line_199 zs_103 (zok_in hb) 200 rfl ?_
      refine z_mem h28_ (fun M29_ h30_ => ?_)
      refine z_aload_n hX dX10_line_200 rfl 201 rfl ?_
      refine z_getF hX fX10_25 dX10_line_201 zs_98 (by decide) rfl 204 rfl ?_
      refine z_iload_n hX dX10_line_204 rfl 205 rfl ?_
      refine z_aload_n hX dX10_line_205 rfl 206 rfl ?_
      refine z_iconst hX dX10_line_206 qi_1 207 rfl ?_
      refine z_bipush hX dX10_line_207 qb_9 209 rfl ?_
      obtain ⟨v31_, M32_, hq, h33_⟩ := zcIM_of h30_
      refine z_callV hX vX10_numeral lX10_241 dX10_line_209 zs_98 rfl (mX10_numeral  hq) (by decide) rfl rfl (Nat.le_of_ble_eq_true rfl) 212 rfl (Qi.to (fun v' M' hv => ?_))
      cases hv
      obtain ⟨hb, h34_⟩ := zgd h33_
      refine z_iast hX dX10_line_212 zs_104 (zok_in hb) 213 rfl ?_
      refine z_mem h34_ (fun M35_ h36_ => ?_)
      refine z_aload_n hX dX10_line_213 rfl 214 rfl ?_
      refine z_iconst hX dX10_line_214 qi_0 215 rfl ?_
      refine z_aload_n hX dX10_line_215 rfl 216 rfl ?_
      refine z_iconst hX dX10_line_216 qi_0 217 rfl ?_
      obtain ⟨v37_, hq, h38_⟩ := zcI_of h36_
      refine z_callV hX vX10_fresher lX10_224 dX10_line_217 zs_98 rfl (mX10_fresher  hq) (by decide) rfl rfl (Nat.le_of_ble_eq_true rfl) 220 rfl (Qi.to (fun v' M' hv => ?_))
      obtain ⟨rfl, rfl⟩ := hv
      refine z_iconst hX dX10_line_220 qi_1 221 rfl ?_
      refine z_iadd hX dX10_line_221 222 rfl ?_
      obtain ⟨M39_, hq, h40_⟩ := zcV_of h38_
      refine z_callV hX vX10_reads lX10_245 dX10_line_222 zs_98 rfl (mX10_reads  hq) (by decide) rfl rfl (Nat.le_of_ble_eq_true rfl) 225 rfl (Qv.to (fun M' hv => ?_))
      subst hv
      refine z_goto hX dX10_line_225 458 (by decide) ?_
      refine z_mask [true, false, false, false, false] ?_
      have hz := aX10_line_J458 hX h40_
      exact hz
    rw [if_neg hc0] at h8_
    by_cases hc1 : x1 = 1
    · rw [if_pos hc1] at h8_
      refine z_tabIn hX dX10_line_96 (by rw [hc1]; decide) (by rw [hc1]; decide) (by rw [hc1]; rfl) 228 (by decide) ?_
      refine z_bipush hX dX10_line_228 qb_8 230 rfl ?_
      refine z_aload_n hX dX10_line_230 rfl 231 rfl ?_
      refine z_iconst hX dX10_line_231 qi_1 232 rfl ?_
      obtain ⟨v49_, hq, h50_⟩ := zcI_of h8_
      refine z_callV hX vX10_fresher lX10_224 dX10_line_232 zs_98 rfl (mX10_fresher  hq) (by decide) rfl rfl (Nat.le_of_ble_eq_true rfl) 235 rfl (Qi.to (fun v' M' hv => ?_))
      obtain ⟨rfl, rfl⟩ := hv
      refine z_iadd hX dX10_line_235 236 rfl ?_
      refine z_istore_n hX dX10_line_236 (by decide) 237 rfl ?_
      refine z_aload_n hX dX10_line_237 rfl 238 rfl ?_
      refine z_getF hX fX10_28 dX10_line_238 zs_98 (by decide) rfl 241 rfl ?_
      refine z_iload_n hX dX10_line_241 rfl 242 rfl ?_
      refine z_aload_n hX dX10_line_242 rfl 243 rfl ?_
      refine z_aload_n hX dX10_line_243 rfl 244 rfl ?_
      refine z_getF hX fX10_28 dX10_line_244 zs_98 (by decide) rfl 247 rfl ?_
      refine z_bipush hX dX10_line_247 qb_8 249 rfl ?_
      refine z_aload_n hX dX10_line_249 rfl 250 rfl ?_
      refine z_iconst hX dX10_line_250 qi_1 251 rfl ?_
      obtain ⟨v51_, hq, h52_⟩ := zcI_of h50_
      refine z_callV hX vX10_fresher lX10_224 dX10_line_251 zs_98 rfl (mX10_fresher  hq) (by decide) rfl rfl (Nat.le_of_ble_eq_true rfl) 254 rfl (Qi.to (fun v' M' hv => ?_))
      obtain ⟨rfl, rfl⟩ := hv
      obtain ⟨v53_, M54_, hq, h55_⟩ := zcIM_of h52_
      refine z_callV hX vX10_fresh lX10_237 dX10_line_254 zs_98 rfl (mX10_fresh zs_105 (by decide) hq) (by decide) rfl rfl (Nat.le_of_ble_eq_true rfl) 257 rfl (Qi.to (fun v' M' hv => ?_))
      cases hv
      obtain ⟨hb, h56_⟩ := zgd h55_
      refine z_iast hX dX10_line_257 zs_105 (zok_in hb) 258 rfl ?_
      refine z_mem h56_ (fun M57_ h58_ => ?_)
      refine z_aload_n hX dX10_line_258 rfl 259 rfl ?_
      refine z_getF hX fX10_31 dX10_line_259 zs_98 (by decide) rfl 262 rfl ?_
      refine z_iload_n hX dX10_line_262 rfl 263 rfl ?_
      refine z_aload_n hX dX10_line_263 rfl 264 rfl ?_
      refine z_iconst hX dX10_line_264 qi_1 265 rfl ?_
      refine z_bipush hX dX10_line_265 qb_99 267 rfl ?_
      obtain ⟨v59_, M60_, hq, h61_⟩ := zcIM_of h58_
      refine z_callV hX vX10_numeral lX10_241 dX10_line_267 zs_98 rfl (mX10_numeral  hq) (by decide) rfl rfl (Nat.le_of_ble_eq_true rfl) 270 rfl (Qi.to (fun v' M' hv => ?_))
      cases hv
      obtain ⟨hb, h62_⟩ := zgd h61_
      refine z_iast hX dX10_line_270 zs_106 (zok_in hb) 271 rfl ?_
      refine z_mem h62_ (fun M63_ h64_ => ?_)
      refine z_aload_n hX dX10_line_271 rfl 272 rfl ?_
      refine z_getF hX fX10_34 dX10_line_272 zs_98 (by decide) rfl 275 rfl ?_
      refine z_iload_n hX dX10_line_275 rfl 276 rfl ?_
      refine z_aload_n hX dX10_line_276 rfl 277 rfl ?_
      refine z_iconst hX dX10_line_277 qi_1 278 rfl ?_
      refine z_bipush hX dX10_line_278 qb_6 280 rfl ?_
      obtain ⟨v65_, M66_, hq, h67_⟩ := zcIM_of h64_
      refine z_callV hX vX10_numeral lX10_241 dX10_line_280 zs_98 rfl (mX10_numeral  hq) (by decide) rfl rfl (Nat.le_of_ble_eq_true rfl) 283 rfl (Qi.to (fun v' M' hv => ?_))
      cases hv
      obtain ⟨hb, h68_⟩ := zgd h67_
      refine z_iast hX dX10_line_283 zs_107 (zok_in hb) 284 rfl ?_
      refine z_mem h68_ (fun M69_ h70_ => ?_)
      refine z_aload_n hX dX10_line_284 rfl 285 rfl ?_
      refine z_getF hX fX10_37 dX10_line_285 zs_98 (by decide) rfl 288 rfl ?_
      refine z_iload_n hX dX10_line_288 rfl 289 rfl ?_
      refine z_aload_n hX dX10_line_289 rfl 290 rfl ?_
      refine z_iconst hX dX10_line_290 qi_0 291 rfl ?_
      refine z_bipush hX dX10_line_291 qb_99 293 rfl ?_
      obtain ⟨v71_, M72_, hq, h73_⟩ := zcIM_of h70_
      refine z_callV hX vX10_numeral lX10_241 dX10_line_293 zs_98 rfl (mX10_numeral  hq) (by decide) rfl rfl (Nat.le_of_ble_eq_true rfl) 296 rfl (Qi.to (fun v' M' hv => ?_))
      cases hv
      obtain ⟨hb, h74_⟩ := zgd h73_
      refine z_iast hX dX10_line_296 zs_108 (zok_in hb) 297 rfl ?_
      refine z_mem h74_ (fun M75_ h76_ => ?_)
      refine z_aload_n hX dX10_line_297 rfl 298 rfl ?_
      refine z_iconst hX dX10_line_298 qi_1 299 rfl ?_
      refine z_aload_n hX dX10_line_299 rfl 300 rfl ?_
      refine z_iconst hX dX10_line_300 qi_1 301 rfl ?_
      obtain ⟨v77_, hq, h78_⟩ := zcI_of h76_
      refine z_callV hX vX10_fresher lX10_224 dX10_line_301 zs_98 rfl (mX10_fresher  hq) (by decide) rfl rfl (Nat.le_of_ble_eq_true rfl) 304 rfl (Qi.to (fun v' M' hv => ?_))
      obtain ⟨rfl, rfl⟩ := hv
      refine z_iconst hX dX10_line_304 qi_1 305 rfl ?_
      refine z_iadd hX dX10_line_305 306 rfl ?_
      obtain ⟨M79_, hq, h80_⟩ := zcV_of h78_
      refine z_callV hX vX10_reads lX10_245 dX10_line_306 zs_98 rfl (mX10_reads  hq) (by decide) rfl rfl (Nat.le_of_ble_eq_true rfl) 309 rfl (Qv.to (fun M' hv => ?_))
      subst hv
      refine z_goto hX dX10_line_309 458 (by decide) ?_
      refine z_mask [true, false, false, false, false] ?_
      have hz := aX10_line_J458 hX h80_
      exact hz
    rw [if_neg hc1] at h8_
    by_cases hc2 : x1 = 2
    · rw [if_pos hc2] at h8_
      refine z_tabIn hX dX10_line_96 (by rw [hc2]; decide) (by rw [hc2]; decide) (by rw [hc2]; rfl) 312 (by decide) ?_
      refine z_bipush hX dX10_line_312 qb_10 314 rfl ?_
      refine z_aload_n hX dX10_line_314 rfl 315 rfl ?_
      refine z_iconst hX dX10_line_315 qi_2 316 rfl ?_
      obtain ⟨v81_, hq, h82_⟩ := zcI_of h8_
      refine z_callV hX vX10_fresher lX10_224 dX10_line_316 zs_98 rfl (mX10_fresher  hq) (by decide) rfl rfl (Nat.le_of_ble_eq_true rfl) 319 rfl (Qi.to (fun v' M' hv => ?_))
      obtain ⟨rfl, rfl⟩ := hv
      refine z_iadd hX dX10_line_319 320 rfl ?_
      refine z_istore hX dX10_line_320 (by decide) 322 rfl ?_
      refine z_aload_n hX dX10_line_322 rfl 323 rfl ?_
      refine z_getF hX fX10_40 dX10_line_323 zs_98 (by decide) rfl 326 rfl ?_
      refine z_iload hX dX10_line_326 rfl 328 rfl ?_
      refine z_aload_n hX dX10_line_328 rfl 329 rfl ?_
      obtain ⟨v83_, M84_, hq, h85_⟩ := zcIM_of h82_
      refine z_callV hX vX10_manAhead lX10_249 dX10_line_329 zs_98 rfl (mX10_manAhead  hq) (by decide) rfl rfl (Nat.le_of_ble_eq_true rfl) 332 rfl (Qi.to (fun v' M' hv => ?_))
      cases hv
      obtain ⟨hb, h86_⟩ := zgd h85_
      refine z_iast hX dX10_line_332 zs_109 (zok_in hb) 333 rfl ?_
      refine z_mem h86_ (fun M87_ h88_ => ?_)
      refine z_aload_n hX dX10_line_333 rfl 334 rfl ?_
      refine z_getF hX fX10_43 dX10_line_334 zs_98 (by decide) rfl 337 rfl ?_
      refine z_iload hX dX10_line_337 rfl 339 rfl ?_
      refine z_aload_n hX dX10_line_339 rfl 340 rfl ?_
      refine z_iconst hX dX10_line_340 qi_0 341 rfl ?_
      refine z_bipush hX dX10_line_341 qb_99 343 rfl ?_
      obtain ⟨v89_, M90_, hq, h91_⟩ := zcIM_of h88_
      refine z_callV hX vX10_numeral lX10_241 dX10_line_343 zs_98 rfl (mX10_numeral  hq) (by decide) rfl rfl (Nat.le_of_ble_eq_true rfl) 346 rfl (Qi.to (fun v' M' hv => ?_))
      cases hv
      obtain ⟨hb, h92_⟩ := zgd h91_
      refine z_iast hX dX10_line_346 zs_110 (zok_in hb) 347 rfl ?_
      refine z_mem h92_ (fun M93_ h94_ => ?_)
      refine z_aload_n hX dX10_line_347 rfl 348 rfl ?_
      refine z_getF hX fX10_46 dX10_line_348 zs_98 (by decide) rfl 351 rfl ?_
      refine z_iload hX dX10_line_351 rfl 353 rfl ?_
      refine z_aload_n hX dX10_line_353 rfl 354 rfl ?_
      refine z_iconst hX dX10_line_354 qi_1 355 rfl ?_
      refine z_bipush hX dX10_line_355 qb_99 357 rfl ?_
      obtain ⟨v95_, M96_, hq, h97_⟩ := zcIM_of h94_
      refine z_callV hX vX10_numeral lX10_241 dX10_line_357 zs_98 rfl (mX10_numeral  hq) (by decide) rfl rfl (Nat.le_of_ble_eq_true rfl) 360 rfl (Qi.to (fun v' M' hv => ?_))
      cases hv
      obtain ⟨hb, h98_⟩ := zgd h97_
      refine z_iast hX dX10_line_360 zs_111 (zok_in hb) 361 rfl ?_
      refine z_mem h98_ (fun M99_ h100_ => ?_)
      refine z_aload_n hX dX10_line_361 rfl 362 rfl ?_
      refine z_iconst hX dX10_line_362 qi_2 363 rfl ?_
      refine z_aload_n hX dX10_line_363 rfl 364 rfl ?_
      refine z_iconst hX dX10_line_364 qi_2 365 rfl ?_
      obtain ⟨v101_, hq, h102_⟩ := zcI_of h100_
      refine z_callV hX vX10_fresher lX10_224 dX10_line_365 zs_98 rfl (mX10_fresher  hq) (by decide) rfl rfl (Nat.le_of_ble_eq_true rfl) 368 rfl (Qi.to (fun v' M' hv => ?_))
      obtain ⟨rfl, rfl⟩ := hv
      refine z_iconst hX dX10_line_368 qi_1 369 rfl ?_
      refine z_iadd hX dX10_line_369 370 rfl ?_
      obtain ⟨M103_, hq, h104_⟩ := zcV_of h102_
      refine z_callV hX vX10_reads lX10_245 dX10_line_370 zs_98 rfl (mX10_reads  hq) (by decide) rfl rfl (Nat.le_of_ble_eq_true rfl) 373 rfl (Qv.to (fun M' hv => ?_))
      subst hv
      refine z_goto hX dX10_line_373 458 (by decide) ?_
      refine z_mask [true, false, false, false, false] ?_
      have hz := aX10_line_J458 hX h104_
      exact hz
    rw [if_neg hc2] at h8_
    by_cases hc3 : x1 = 3
    · rw [if_pos hc3] at h8_
      refine z_tabIn hX dX10_line_96 (by rw [hc3]; decide) (by rw [hc3]; decide) (by rw [hc3]; rfl) 376 (by decide) ?_
      refine z_aload_n hX dX10_line_376 rfl 377 rfl ?_
      refine z_iconst hX dX10_line_377 qi_3 378 rfl ?_
      refine z_aload_n hX dX10_line_378 rfl 379 rfl ?_
      refine z_iconst hX dX10_line_379 qi_0 380 rfl ?_
      refine z_sipush hX dX10_line_380 qs_999 383 rfl ?_
      obtain ⟨v105_, M106_, hq, h107_⟩ := zcIM_of h8_
      refine z_callV hX vX10_numeral lX10_241 dX10_line_383 zs_98 rfl (mX10_numeral  hq) (by decide) rfl rfl (Nat.le_of_ble_eq_true rfl) 386 rfl (Qi.to (fun v' M' hv => ?_))
      cases hv
      obtain ⟨M108_, hq, h109_⟩ := zcV_of h107_
      refine z_callV hX vX10_reads lX10_245 dX10_line_386 zs_98 rfl (mX10_reads  hq) (by decide) rfl rfl (Nat.le_of_ble_eq_true rfl) 389 rfl (Qv.to (fun M' hv => ?_))
      subst hv
      refine z_goto hX dX10_line_389 458 (by decide) ?_
      refine z_mask [true, false, false, false, false] ?_
      have hz := aX10_line_J458 hX h109_
      exact hz
    rw [if_neg hc3] at h8_
    by_cases hc4 : x1 = 4
    · rw [if_pos hc4] at h8_
      refine z_tabIn hX dX10_line_96 (by rw [hc4]; decide) (by rw [hc4]; decide) (by rw [hc4]; rfl) 392 (by decide) ?_
      refine z_aload_n hX dX10_line_392 rfl 393 rfl ?_
      refine z_iconst hX dX10_line_393 qi_4 394 rfl ?_
      refine z_aload_n hX dX10_line_394 rfl 395 rfl ?_
      refine z_iconst hX dX10_line_395 qi_0 396 rfl ?_
      refine z_bipush hX dX10_line_396 qb_9 398 rfl ?_
      obtain ⟨v110_, M111_, hq, h112_⟩ := zcIM_of h8_
      refine z_callV hX vX10_numeral lX10_241 dX10_line_398 zs_98 rfl (mX10_numeral  hq) (by decide) rfl rfl (Nat.le_of_ble_eq_true rfl) 401 rfl (Qi.to (fun v' M' hv => ?_))
      cases hv
      obtain ⟨M113_, hq, h114_⟩ := zcV_of h112_
      refine z_callV hX vX10_reads lX10_245 dX10_line_401 zs_98 rfl (mX10_reads  hq) (by decide) rfl rfl (Nat.le_of_ble_eq_true rfl) 404 rfl (Qv.to (fun M' hv => ?_))
      subst hv
      refine z_goto hX dX10_line_404 458 (by decide) ?_
      refine z_mask [true, false, false, false, false] ?_
      have hz := aX10_line_J458 hX h114_
      exact hz
    rw [if_neg hc4] at h8_
    by_cases hc5 : x1 = 5
    · rw [if_pos hc5] at h8_
      refine z_tabIn hX dX10_line_96 (by rw [hc5]; decide) (by rw [hc5]; decide) (by rw [hc5]; rfl) 407 (by decide) ?_
      refine z_aload_n hX dX10_line_407 rfl 408 rfl ?_
      refine z_iconst hX dX10_line_408 qi_5 409 rfl ?_
      refine z_aload_n hX dX10_line_409 rfl 410 rfl ?_
      refine z_iconst hX dX10_line_410 qi_0 411 rfl ?_
      refine z_bipush hX dX10_line_411 qb_100 413 rfl ?_
      obtain ⟨v115_, M116_, hq, h117_⟩ := zcIM_of h8_
      refine z_callV hX vX10_numeral lX10_241 dX10_line_413 zs_98 rfl (mX10_numeral  hq) (by decide) rfl rfl (Nat.le_of_ble_eq_true rfl) 416 rfl (Qi.to (fun v' M' hv => ?_))
      cases hv
      obtain ⟨M118_, hq, h119_⟩ := zcV_of h117_
      refine z_callV hX vX10_reads lX10_245 dX10_line_416 zs_98 rfl (mX10_reads  hq) (by decide) rfl rfl (Nat.le_of_ble_eq_true rfl) 419 rfl (Qv.to (fun M' hv => ?_))
      subst hv
      refine z_goto hX dX10_line_419 458 (by decide) ?_
      refine z_mask [true, false, false, false, false] ?_
      have hz := aX10_line_J458 hX h119_
      exact hz
    rw [if_neg hc5] at h8_
    by_cases hc6 : x1 = 6
    · rw [if_pos hc6] at h8_
      refine z_tabIn hX dX10_line_96 (by rw [hc6]; decide) (by rw [hc6]; decide) (by rw [hc6]; rfl) 422 (by decide) ?_
      refine z_aload_n hX dX10_line_422 rfl 423 rfl ?_
      refine z_bipush hX dX10_line_423 qb_6 425 rfl ?_
      refine z_aload_n hX dX10_line_425 rfl 426 rfl ?_
      refine z_iconst hX dX10_line_426 qi_0 427 rfl ?_
      refine z_bipush hX dX10_line_427 qb_100 429 rfl ?_
      obtain ⟨v120_, M121_, hq, h122_⟩ := zcIM_of h8_
      refine z_callV hX vX10_numeral lX10_241 dX10_line_429 zs_98 rfl (mX10_numeral  hq) (by decide) rfl rfl (Nat.le_of_ble_eq_true rfl) 432 rfl (Qi.to (fun v' M' hv => ?_))
      cases hv
      obtain ⟨M123_, hq, h124_⟩ := zcV_of h122_
      refine z_callV hX vX10_reads lX10_245 dX10_line_432 zs_98 rfl (mX10_reads  hq) (by decide) rfl rfl (Nat.le_of_ble_eq_true rfl) 435 rfl (Qv.to (fun M' hv => ?_))
      subst hv
      refine z_goto hX dX10_line_435 458 (by decide) ?_
      refine z_mask [true, false, false, false, false] ?_
      have hz := aX10_line_J458 hX h124_
      exact hz
    rw [if_neg hc6] at h8_
    by_cases hc7 : x1 = 7
    · rw [if_pos hc7] at h8_
      refine z_tabIn hX dX10_line_96 (by rw [hc7]; decide) (by rw [hc7]; decide) (by rw [hc7]; rfl) 438 (by decide) ?_
      refine z_aload_n hX dX10_line_438 rfl 439 rfl ?_
      refine z_bipush hX dX10_line_439 qb_7 441 rfl ?_
      refine z_aload_n hX dX10_line_441 rfl 442 rfl ?_
      refine z_iconst hX dX10_line_442 qi_0 443 rfl ?_
      refine z_ldc hX dX10_line_443 kX10_192 445 rfl ?_
      obtain ⟨v125_, M126_, hq, h127_⟩ := zcIM_of h8_
      refine z_callV hX vX10_numeral lX10_241 dX10_line_445 zs_98 rfl (mX10_numeral  hq) (by decide) rfl rfl (Nat.le_of_ble_eq_true rfl) 448 rfl (Qi.to (fun v' M' hv => ?_))
      cases hv
      obtain ⟨M128_, hq, h129_⟩ := zcV_of h127_
      refine z_callV hX vX10_reads lX10_245 dX10_line_448 zs_98 rfl (mX10_reads  hq) (by decide) rfl rfl (Nat.le_of_ble_eq_true rfl) 451 rfl (Qv.to (fun M' hv => ?_))
      subst hv
      refine z_goto hX dX10_line_451 458 (by decide) ?_
      refine z_mask [true, false, false, false, false] ?_
      have hz := aX10_line_J458 hX h129_
      exact hz
    rw [if_neg hc7] at h8_
    have hout : (x1 : Int32).toInt < 0 ∨ 7 < (x1 : Int32).toInt := zsw_out (fun k h1 h2 => by
      have hk : k = 0 ∨ k = 1 ∨ k = 2 ∨ k = 3 ∨ k = 4 ∨ k = 5 ∨ k = 6 ∨ k = 7 := by omega
      rcases hk with rfl | rfl | rfl | rfl | rfl | rfl | rfl | rfl
      · exact hc0
      · exact hc1
      · exact hc2
      · exact hc3
      · exact hc4
      · exact hc5
      · exact hc6
      · exact hc7)
    refine z_tabOut hX dX10_line_96 hout 454 (by decide) ?_
    refine z_aload_n hX dX10_line_454 rfl 455 rfl ?_
    obtain ⟨M130_, hq, h131_⟩ := zcV_of h8_
    refine z_callV hX vX10_lawLine lX10_252 dX10_line_455 zs_98 rfl (mX10_lawLine  hq) (by decide) rfl rfl (Nat.le_of_ble_eq_true rfl) 458 rfl (Qv.to (fun M' hv => ?_))
    subst hv
    refine z_mask [true, false, false, false, false] ?_
    have hz := aX10_line_J458 hX h131_
    exact hz
  · rw [if_neg hc] at h
    exact z_return hX dX10_line_78 (zend_v h)
def gX10_line (M : zM) : Option zM :=
  (if (M.1 98 24) = 0 then (if (M.1 98 25) ≤ 8 then zcI (gX10_isFull (M.1 98 25) M) (fun v3_ => (if v3_ = 0 then (if (M.1 98 25) < 3 then gX10_line_J71 (M.1 98 25) M
  else (if 7 < (M.1 98 25) then gX10_line_J71 (M.1 98 25) M
  else (if ((((M.1 98 19) : Int32) >>> (((M.1 98 25) : Int32) &&& 31)) &&& 1) = 1 then zcV (gX10_wrong 3 M) (fun M132_ => gX10_line_J71 (M.1 98 25) M132_)
  else gX10_line_J71 (M.1 98 25) M)))
  else zcV (gX10_wrong 2 M) (fun M134_ => gX10_line_J71 (M.1 98 25) M134_)))
  else gX10_line_J16 M)
  else gX10_line_J16 M)
set_option maxRecDepth 100000 in
set_option maxHeartbeats 2000000 in
theorem mX10_line {G : zG}  {M : zM}  {res : zM} (h : gX10_line M = some res) : Ct G 210 tX10_line [.ref 98] M (zQv res) := by
  unfold gX10_line at h
  refine Ct.of (y := yX10_line) rfl plX10 (Nat.le_of_ble_eq_true rfl) (fun X hX => ?_)
  replace hX : zC G X cX10_line 5 RX10 none 210 := hX
  show Z G X _ 0 [some (.ref 98), none, none, none, none] [] M
  refine z_aload_n hX dX10_line_0 rfl 1 rfl ?_
  refine z_getI hX fX10_173 dX10_line_1 zs_98 (by decide) rfl 4 rfl ?_
  refine z_if_ne hX dX10_line_4 16 7 (by decide) rfl (fun hc => ?_) (fun hc => ?_)
  · rw [if_neg hc] at h
    refine z_mask [true, false, false, false, false] ?_
    have hz := aX10_line_J16 hX h
    exact hz
  · rw [if_pos hc] at h
    refine z_aload_n hX dX10_line_7 rfl 8 rfl ?_
    refine z_getI hX fX10_183 dX10_line_8 zs_98 (by decide) rfl 11 rfl ?_
    refine z_bipush hX dX10_line_11 qb_8 13 rfl ?_
    refine z_icmp_le hX dX10_line_13 22 16 (by decide) rfl (fun hc => ?_) (fun hc => ?_)
    · rw [if_pos hc] at h
      refine z_aload_n hX dX10_line_22 rfl 23 rfl ?_
      refine z_getI hX fX10_183 dX10_line_23 zs_98 (by decide) rfl 26 rfl ?_
      refine z_istore_n hX dX10_line_26 (by decide) 27 rfl ?_
      refine z_aload_n hX dX10_line_27 rfl 28 rfl ?_
      refine z_iload_n hX dX10_line_28 rfl 29 rfl ?_
      obtain ⟨v3_, hq, h4_⟩ := zcI_of h
      refine z_callV hX vX10_isFull lX10_231 dX10_line_29 zs_98 rfl (mX10_isFull  hq) (by decide) rfl rfl (Nat.le_of_ble_eq_true rfl) 32 rfl (Qi.to (fun v' M' hv => ?_))
      obtain ⟨rfl, rfl⟩ := hv
      refine z_if_eq hX dX10_line_32 43 35 (by decide) rfl (fun hc => ?_) (fun hc => ?_)
      · rw [if_pos hc] at h4_
        refine z_iload_n hX dX10_line_43 rfl 44 rfl ?_
        refine z_iconst hX dX10_line_44 qi_3 45 rfl ?_
        refine z_icmp_lt hX dX10_line_45 71 48 (by decide) rfl (fun hc => ?_) (fun hc => ?_)
        · rw [if_pos hc] at h4_
          refine z_mask [true, true, false, false, false] ?_
          have hz := aX10_line_J71 hX h4_
          exact hz
        · rw [if_neg hc] at h4_
          refine z_iload_n hX dX10_line_48 rfl 49 rfl ?_
          refine z_bipush hX dX10_line_49 qb_7 51 rfl ?_
          refine z_icmp_gt hX dX10_line_51 71 54 (by decide) rfl (fun hc => ?_) (fun hc => ?_)
          · rw [if_pos hc] at h4_
            refine z_mask [true, true, false, false, false] ?_
            have hz := aX10_line_J71 hX h4_
            exact hz
          · rw [if_neg hc] at h4_
            refine z_aload_n hX dX10_line_54 rfl 55 rfl ?_
            refine z_getI hX fX10_234 dX10_line_55 zs_98 (by decide) rfl 58 rfl ?_
            refine z_iload_n hX dX10_line_58 rfl 59 rfl ?_
            refine z_ishr hX dX10_line_59 60 rfl ?_
            refine z_iconst hX dX10_line_60 qi_1 61 rfl ?_
            refine z_iand hX dX10_line_61 62 rfl ?_
            refine z_iconst hX dX10_line_62 qi_1 63 rfl ?_
            refine z_icmp_ne hX dX10_line_63 71 66 (by decide) rfl (fun hc => ?_) (fun hc => ?_)
            · rw [if_neg hc] at h4_
              refine z_mask [true, true, false, false, false] ?_
              have hz := aX10_line_J71 hX h4_
              exact hz
            · rw [if_pos hc] at h4_
              refine z_aload_n hX dX10_line_66 rfl 67 rfl ?_
              refine z_iconst hX dX10_line_67 qi_3 68 rfl ?_
              obtain ⟨M132_, hq, h133_⟩ := zcV_of h4_
              refine z_callV hX vX10_wrong lX10_217 dX10_line_68 zs_98 rfl (mX10_wrong  hq) (by decide) rfl rfl (Nat.le_of_ble_eq_true rfl) 71 rfl (Qv.to (fun M' hv => ?_))
              subst hv
              refine z_mask [true, true, false, false, false] ?_
              have hz := aX10_line_J71 hX h133_
              exact hz
      · rw [if_neg hc] at h4_
        refine z_aload_n hX dX10_line_35 rfl 36 rfl ?_
        refine z_iconst hX dX10_line_36 qi_2 37 rfl ?_
        obtain ⟨M134_, hq, h135_⟩ := zcV_of h4_
        refine z_callV hX vX10_wrong lX10_217 dX10_line_37 zs_98 rfl (mX10_wrong  hq) (by decide) rfl rfl (Nat.le_of_ble_eq_true rfl) 40 rfl (Qv.to (fun M' hv => ?_))
        subst hv
        refine z_goto hX dX10_line_40 71 (by decide) ?_
        refine z_mask [true, true, false, false, false] ?_
        have hz := aX10_line_J71 hX h135_
        exact hz
    · rw [if_neg hc] at h
      refine z_mask [true, false, false, false, false] ?_
      have hz := aX10_line_J16 hX h
      exact hz
def gX10_text_J158 (M : zM) : Option (Int32 × zM) :=
  zlet (zI M 98 28 (M.1 98 26)) (fun M23_ => zlet (zI M23_ 98 29 (M23_.1 98 27)) (fun M25_ => (if (M25_.1 98 26) = 0 then zcV (gX10_half 100 18 M25_) (fun M27_ => zcV (gX10_half 101 12 M27_) (fun M29_ => zcV (gX10_half 102 12 M29_) (fun M31_ => zcV (gX10_half 103 12 M31_) (fun M33_ => zcV (gX10_half 104 12 M33_) (fun M35_ => zcV (gX10_half 105 16 M35_) (fun M37_ => zcV (gX10_half 106 16 M37_) (fun M39_ => zcV (gX10_half 107 16 M39_) (fun M41_ => zcV (gX10_half 108 16 M41_) (fun M43_ => zcV (gX10_half 109 20 M43_) (fun M45_ => zcV (gX10_half 110 20 M45_) (fun M47_ => zcV (gX10_half 111 20 M47_) (fun M49_ => zcV (gX10_half 112 6 M49_) (fun M51_ => zcV (gX10_half 113 6 M51_) (fun M53_ => zcV (gX10_half 114 128 M53_) (fun M55_ => zcV (gX10_half 115 128 M55_) (fun M57_ => zlet (zI M57_ 98 61 0) (fun M59_ => zlet (zI M59_ 98 62 (-1)) (fun M61_ => zlet (zI M61_ 98 49 0) (fun M63_ => zlet (zI M63_ 98 50 0) (fun M65_ => zcV (gX10_begins M65_) (fun M67_ => some ((M67_.1 98 20), M67_))))))))))))))))))))))
  else some ((-1), M25_))))
set_option maxRecDepth 100000 in
set_option maxHeartbeats 2000000 in
theorem aX10_text_J158 {G : zG} {X : zX} (hX : zC G X cX10_text 3 RX10 (some .int) 211)   {M : zM} {res : (Int32 × zM)}  (h : gX10_text_J158 M = some res) : Z G X (zQi res) 158 [some (.ref 98), none, none] [] M := by
  unfold gX10_text_J158 at h
  refine z_aload_n hX dX10_text_158 rfl 159 rfl ?_
  refine z_aload_n hX dX10_text_159 rfl 160 rfl ?_
  refine z_getI hX fX10_208 dX10_text_160 zs_98 (by decide) rfl 163 rfl ?_
  refine z_putI hX pX10_297 dX10_text_163 zs_98 (by decide) rfl 166 rfl ?_
  refine z_mem h (fun M23_ h24_ => ?_)
  refine z_aload_n hX dX10_text_166 rfl 167 rfl ?_
  refine z_aload_n hX dX10_text_167 rfl 168 rfl ?_
  refine z_getI hX fX10_211 dX10_text_168 zs_98 (by decide) rfl 171 rfl ?_
  refine z_putI hX pX10_61 dX10_text_171 zs_98 (by decide) rfl 174 rfl ?_
  refine z_mem h24_ (fun M25_ h26_ => ?_)
  refine z_aload_n hX dX10_text_174 rfl 175 rfl ?_
  refine z_getI hX fX10_208 dX10_text_175 zs_98 (by decide) rfl 178 rfl ?_
  refine z_if_eq hX dX10_text_178 183 181 (by decide) rfl (fun hc => ?_) (fun hc => ?_)
  · rw [if_pos hc] at h26_
    refine z_aload_n hX dX10_text_183 rfl 184 rfl ?_
    refine z_getF hX fX10_13 dX10_text_184 zs_98 (by decide) rfl 187 rfl ?_
    obtain ⟨M27_, hq, h28_⟩ := zcV_of h26_
    refine z_callS hX vX10_half rfl lX10_300 dX10_text_187 (mX10_half zs_100 (by decide) hq) (by decide) rfl rfl (Nat.le_of_ble_eq_true rfl) 190 rfl (Qv.to (fun M' hv => ?_))
    subst hv
    refine z_aload_n hX dX10_text_190 rfl 191 rfl ?_
    refine z_getF hX fX10_16 dX10_text_191 zs_98 (by decide) rfl 194 rfl ?_
    obtain ⟨M29_, hq, h30_⟩ := zcV_of h28_
    refine z_callS hX vX10_half rfl lX10_300 dX10_text_194 (mX10_half zs_101 (by decide) hq) (by decide) rfl rfl (Nat.le_of_ble_eq_true rfl) 197 rfl (Qv.to (fun M' hv => ?_))
    subst hv
    refine z_aload_n hX dX10_text_197 rfl 198 rfl ?_
    refine z_getF hX fX10_19 dX10_text_198 zs_98 (by decide) rfl 201 rfl ?_
    obtain ⟨M31_, hq, h32_⟩ := zcV_of h30_
    refine z_callS hX vX10_half rfl lX10_300 dX10_text_201 (mX10_half zs_102 (by decide) hq) (by decide) rfl rfl (Nat.le_of_ble_eq_true rfl) 204 rfl (Qv.to (fun M' hv => ?_))
    subst hv
    refine z_aload_n hX dX10_text_204 rfl 205 rfl ?_
    refine z_getF hX fX10_22 dX10_text_205 zs_98 (by decide) rfl 208 rfl ?_
    obtain ⟨M33_, hq, h34_⟩ := zcV_of h32_
    refine z_callS hX vX10_half rfl lX10_300 dX10_text_208 (mX10_half zs_103 (by decide) hq) (by decide) rfl rfl (Nat.le_of_ble_eq_true rfl) 211 rfl (Qv.to (fun M' hv => ?_))
    subst hv
    refine z_aload_n hX dX10_text_211 rfl 212 rfl ?_
    refine z_getF hX fX10_25 dX10_text_212 zs_98 (by decide) rfl 215 rfl ?_
    obtain ⟨M35_, hq, h36_⟩ := zcV_of h34_
    refine z_callS hX vX10_half rfl lX10_300 dX10_text_215 (mX10_half zs_104 (by decide) hq) (by decide) rfl rfl (Nat.le_of_ble_eq_true rfl) 218 rfl (Qv.to (fun M' hv => ?_))
    subst hv
    refine z_aload_n hX dX10_text_218 rfl 219 rfl ?_
    refine z_getF hX fX10_28 dX10_text_219 zs_98 (by decide) rfl 222 rfl ?_
    obtain ⟨M37_, hq, h38_⟩ := zcV_of h36_
    refine z_callS hX vX10_half rfl lX10_300 dX10_text_222 (mX10_half zs_105 (by decide) hq) (by decide) rfl rfl (Nat.le_of_ble_eq_true rfl) 225 rfl (Qv.to (fun M' hv => ?_))
    subst hv
    refine z_aload_n hX dX10_text_225 rfl 226 rfl ?_
    refine z_getF hX fX10_31 dX10_text_226 zs_98 (by decide) rfl 229 rfl ?_
    obtain ⟨M39_, hq, h40_⟩ := zcV_of h38_
    refine z_callS hX vX10_half rfl lX10_300 dX10_text_229 (mX10_half zs_106 (by decide) hq) (by decide) rfl rfl (Nat.le_of_ble_eq_true rfl) 232 rfl (Qv.to (fun M' hv => ?_))
    subst hv
    refine z_aload_n hX dX10_text_232 rfl 233 rfl ?_
    refine z_getF hX fX10_34 dX10_text_233 zs_98 (by decide) rfl 236 rfl ?_
    obtain ⟨M41_, hq, h42_⟩ := zcV_of h40_
    refine z_callS hX vX10_half rfl lX10_300 dX10_text_236 (mX10_half zs_107 (by decide) hq) (by decide) rfl rfl (Nat.le_of_ble_eq_true rfl) 239 rfl (Qv.to (fun M' hv => ?_))
    subst hv
    refine z_aload_n hX dX10_text_239 rfl 240 rfl ?_
    refine z_getF hX fX10_37 dX10_text_240 zs_98 (by decide) rfl 243 rfl ?_
    obtain ⟨M43_, hq, h44_⟩ := zcV_of h42_
    refine z_callS hX vX10_half rfl lX10_300 dX10_text_243 (mX10_half zs_108 (by decide) hq) (by decide) rfl rfl (Nat.le_of_ble_eq_true rfl) 246 rfl (Qv.to (fun M' hv => ?_))
    subst hv
    refine z_aload_n hX dX10_text_246 rfl 247 rfl ?_
    refine z_getF hX fX10_40 dX10_text_247 zs_98 (by decide) rfl 250 rfl ?_
    obtain ⟨M45_, hq, h46_⟩ := zcV_of h44_
    refine z_callS hX vX10_half rfl lX10_300 dX10_text_250 (mX10_half zs_109 (by decide) hq) (by decide) rfl rfl (Nat.le_of_ble_eq_true rfl) 253 rfl (Qv.to (fun M' hv => ?_))
    subst hv
    refine z_aload_n hX dX10_text_253 rfl 254 rfl ?_
    refine z_getF hX fX10_43 dX10_text_254 zs_98 (by decide) rfl 257 rfl ?_
    obtain ⟨M47_, hq, h48_⟩ := zcV_of h46_
    refine z_callS hX vX10_half rfl lX10_300 dX10_text_257 (mX10_half zs_110 (by decide) hq) (by decide) rfl rfl (Nat.le_of_ble_eq_true rfl) 260 rfl (Qv.to (fun M' hv => ?_))
    subst hv
    refine z_aload_n hX dX10_text_260 rfl 261 rfl ?_
    refine z_getF hX fX10_46 dX10_text_261 zs_98 (by decide) rfl 264 rfl ?_
    obtain ⟨M49_, hq, h50_⟩ := zcV_of h48_
    refine z_callS hX vX10_half rfl lX10_300 dX10_text_264 (mX10_half zs_111 (by decide) hq) (by decide) rfl rfl (Nat.le_of_ble_eq_true rfl) 267 rfl (Qv.to (fun M' hv => ?_))
    subst hv
    refine z_aload_n hX dX10_text_267 rfl 268 rfl ?_
    refine z_getF hX fX10_49 dX10_text_268 zs_98 (by decide) rfl 271 rfl ?_
    obtain ⟨M51_, hq, h52_⟩ := zcV_of h50_
    refine z_callS hX vX10_half rfl lX10_300 dX10_text_271 (mX10_half zs_112 (by decide) hq) (by decide) rfl rfl (Nat.le_of_ble_eq_true rfl) 274 rfl (Qv.to (fun M' hv => ?_))
    subst hv
    refine z_aload_n hX dX10_text_274 rfl 275 rfl ?_
    refine z_getF hX fX10_52 dX10_text_275 zs_98 (by decide) rfl 278 rfl ?_
    obtain ⟨M53_, hq, h54_⟩ := zcV_of h52_
    refine z_callS hX vX10_half rfl lX10_300 dX10_text_278 (mX10_half zs_113 (by decide) hq) (by decide) rfl rfl (Nat.le_of_ble_eq_true rfl) 281 rfl (Qv.to (fun M' hv => ?_))
    subst hv
    refine z_aload_n hX dX10_text_281 rfl 282 rfl ?_
    refine z_getF hX fX10_55 dX10_text_282 zs_98 (by decide) rfl 285 rfl ?_
    obtain ⟨M55_, hq, h56_⟩ := zcV_of h54_
    refine z_callS hX vX10_half rfl lX10_300 dX10_text_285 (mX10_half zs_114 (by decide) hq) (by decide) rfl rfl (Nat.le_of_ble_eq_true rfl) 288 rfl (Qv.to (fun M' hv => ?_))
    subst hv
    refine z_aload_n hX dX10_text_288 rfl 289 rfl ?_
    refine z_getF hX fX10_58 dX10_text_289 zs_98 (by decide) rfl 292 rfl ?_
    obtain ⟨M57_, hq, h58_⟩ := zcV_of h56_
    refine z_callS hX vX10_half rfl lX10_300 dX10_text_292 (mX10_half zs_115 (by decide) hq) (by decide) rfl rfl (Nat.le_of_ble_eq_true rfl) 295 rfl (Qv.to (fun M' hv => ?_))
    subst hv
    refine z_aload_n hX dX10_text_295 rfl 296 rfl ?_
    refine z_iconst hX dX10_text_296 qi_0 297 rfl ?_
    refine z_putI hX pX10_304 dX10_text_297 zs_98 (by decide) rfl 300 rfl ?_
    refine z_mem h58_ (fun M59_ h60_ => ?_)
    refine z_aload_n hX dX10_text_300 rfl 301 rfl ?_
    refine z_iconst hX dX10_text_301 qi_m1 302 rfl ?_
    refine z_putI hX pX10_132 dX10_text_302 zs_98 (by decide) rfl 305 rfl ?_
    refine z_mem h60_ (fun M61_ h62_ => ?_)
    refine z_aload_n hX dX10_text_305 rfl 306 rfl ?_
    refine z_iconst hX dX10_text_306 qi_0 307 rfl ?_
    refine z_putZ hX pX10_307 dX10_text_307 zs_98 (by decide) rfl (by decide) 310 rfl ?_
    refine z_mem h62_ (fun M63_ h64_ => ?_)
    refine z_aload_n hX dX10_text_310 rfl 311 rfl ?_
    refine z_iconst hX dX10_text_311 qi_0 312 rfl ?_
    refine z_putI hX pX10_311 dX10_text_312 zs_98 (by decide) rfl 315 rfl ?_
    refine z_mem h64_ (fun M65_ h66_ => ?_)
    refine z_aload_n hX dX10_text_315 rfl 316 rfl ?_
    obtain ⟨M67_, hq, h68_⟩ := zcV_of h66_
    refine z_callV hX vX10_begins lX10_151 dX10_text_316 zs_98 rfl (mX10_begins  hq) (by decide) rfl rfl (Nat.le_of_ble_eq_true rfl) 319 rfl (Qv.to (fun M' hv => ?_))
    subst hv
    refine z_aload_n hX dX10_text_319 rfl 320 rfl ?_
    refine z_getI hX fX10_258 dX10_text_320 zs_98 (by decide) rfl 323 rfl ?_
    exact z_ireturn hX dX10_text_323 (zend_i h68_)
  · rw [if_neg hc] at h26_
    refine z_iconst hX dX10_text_181 qi_m1 182 rfl ?_
    exact z_ireturn hX dX10_text_182 (zend_i h26_)
def gX10_text_L136  (rc136 : zM → Option (Int32 × zM)) (s : zM) : Option (Int32 × zM) :=
  (if (s.1 98 26) = 0 then (if (s.1 98 24) = 4 then gX10_text_J158 s
  else zcV (gX10_line s) (fun M69_ => rc136 M69_))
  else gX10_text_J158 s)
set_option maxRecDepth 100000 in
set_option maxHeartbeats 2000000 in
theorem aX10_text_L136 {G : zG} {X : zX} (hX : zC G X cX10_text 3 RX10 (some .int) 211)    {res : (Int32 × zM)}  : ∀ (N : Nat) (s : zM), zfix N (gX10_text_L136 ) s = some res → Z G X (zQi res) 136 [some (.ref 98), none, none] [] s := by
  intro N
  induction N with
  | zero => intro s h; cases h
  | succ N hrc136 =>
    intro s h
    replace h : gX10_text_L136  (zfix N (gX10_text_L136 )) s = some res := h
    unfold gX10_text_L136 at h
    refine z_aload_n hX dX10_text_136 rfl 137 rfl ?_
    refine z_getI hX fX10_208 dX10_text_137 zs_98 (by decide) rfl 140 rfl ?_
    refine z_if_ne hX dX10_text_140 158 143 (by decide) rfl (fun hc => ?_) (fun hc => ?_)
    · rw [if_neg hc] at h
      refine z_mask [true, false, false] ?_
      have hz := aX10_text_J158 hX h
      exact hz
    · rw [if_pos hc] at h
      refine z_aload_n hX dX10_text_143 rfl 144 rfl ?_
      refine z_getI hX fX10_173 dX10_text_144 zs_98 (by decide) rfl 147 rfl ?_
      refine z_iconst hX dX10_text_147 qi_4 148 rfl ?_
      refine z_icmp_eq hX dX10_text_148 158 151 (by decide) rfl (fun hc => ?_) (fun hc => ?_)
      · rw [if_pos hc] at h
        refine z_mask [true, false, false] ?_
        have hz := aX10_text_J158 hX h
        exact hz
      · rw [if_neg hc] at h
        refine z_aload_n hX dX10_text_151 rfl 152 rfl ?_
        obtain ⟨M69_, hq, h70_⟩ := zcV_of h
        refine z_callV hX vX10_line lX10_294 dX10_text_152 zs_98 rfl (mX10_line  hq) (by decide) rfl rfl (Nat.le_of_ble_eq_true rfl) 155 rfl (Qv.to (fun M' hv => ?_))
        subst hv
        refine z_goto hX dX10_text_155 136 (by decide) ?_
        refine z_mask [true, false, false] ?_
        have hz := hrc136 _ h70_
        exact hz
def gX10_text_L86  (rc86 : (Int32 × zM) → Option (Int32 × zM)) (s : (Int32 × zM)) : Option (Int32 × zM) :=
  (if 6 ≤ s.1 then zlet (zI s.2 98 19 0) (fun M13_ => zlet (zI M13_ 98 20 0) (fun M15_ => zlet (zI M15_ 98 30 0) (fun M17_ => zlet (zI M17_ 98 31 0) (fun M19_ => zcV (gX10_token M19_) (fun M21_ => zfix zFu (gX10_text_L136 ) M21_)))))
  else zg (zok s.1 6) (zlet (zI s.2 112 (s.1 : Int32).toNatClampNeg 0) (fun M72_ => zg (zok s.1 6) (zlet (zI M72_ 113 (s.1 : Int32).toNatClampNeg 0) (fun M75_ => rc86 ((s.1 + 1), M75_))))))
set_option maxRecDepth 100000 in
set_option maxHeartbeats 2000000 in
theorem aX10_text_L86 {G : zG} {X : zX} (hX : zC G X cX10_text 3 RX10 (some .int) 211)    {res : (Int32 × zM)}  : ∀ (N : Nat) (s : (Int32 × zM)), zfix N (gX10_text_L86 ) s = some res → Z G X (zQi res) 86 [some (.ref 98), none, some (.int s.1)] [] s.2 := by
  intro N
  induction N with
  | zero => intro s h; cases h
  | succ N hrc86 =>
    intro s h
    replace h : gX10_text_L86  (zfix N (gX10_text_L86 )) s = some res := h
    unfold gX10_text_L86 at h
    refine z_iload_n hX dX10_text_86 rfl 87 rfl ?_
    refine z_bipush hX dX10_text_87 qb_6 89 rfl ?_
    refine z_icmp_ge hX dX10_text_89 112 92 (by decide) rfl (fun hc => ?_) (fun hc => ?_)
    · rw [if_pos hc] at h
      refine z_aload_n hX dX10_text_112 rfl 113 rfl ?_
      refine z_iconst hX dX10_text_113 qi_0 114 rfl ?_
      refine z_putI hX pX10_234 dX10_text_114 zs_98 (by decide) rfl 117 rfl ?_
      refine z_mem h (fun M13_ h14_ => ?_)
      refine z_aload_n hX dX10_text_117 rfl 118 rfl ?_
      refine z_iconst hX dX10_text_118 qi_0 119 rfl ?_
      refine z_putI hX pX10_258 dX10_text_119 zs_98 (by decide) rfl 122 rfl ?_
      refine z_mem h14_ (fun M15_ h16_ => ?_)
      refine z_aload_n hX dX10_text_122 rfl 123 rfl ?_
      refine z_iconst hX dX10_text_123 qi_0 124 rfl ?_
      refine z_putI hX pX10_291 dX10_text_124 zs_98 (by decide) rfl 127 rfl ?_
      refine z_mem h16_ (fun M17_ h18_ => ?_)
      refine z_aload_n hX dX10_text_127 rfl 128 rfl ?_
      refine z_iconst hX dX10_text_128 qi_0 129 rfl ?_
      refine z_putI hX pX10_264 dX10_text_129 zs_98 (by decide) rfl 132 rfl ?_
      refine z_mem h18_ (fun M19_ h20_ => ?_)
      refine z_aload_n hX dX10_text_132 rfl 133 rfl ?_
      obtain ⟨M21_, hq, h22_⟩ := zcV_of h20_
      refine z_callV hX vX10_token lX10_214 dX10_text_133 zs_98 rfl (mX10_token  hq) (by decide) rfl rfl (Nat.le_of_ble_eq_true rfl) 136 rfl (Qv.to (fun M' hv => ?_))
      subst hv
      refine z_mask [true, false, false] ?_
      have hz := aX10_text_L136 hX _ _ h22_
      exact hz
    · rw [if_neg hc] at h
      refine z_aload_n hX dX10_text_92 rfl 93 rfl ?_
      refine z_getF hX fX10_49 dX10_text_93 zs_98 (by decide) rfl 96 rfl ?_
      refine z_iload_n hX dX10_text_96 rfl 97 rfl ?_
      refine z_iconst hX dX10_text_97 qi_0 98 rfl ?_
      obtain ⟨hb, h71_⟩ := zgd h
      refine z_iast hX dX10_text_98 zs_112 (zok_in hb) 99 rfl ?_
      refine z_mem h71_ (fun M72_ h73_ => ?_)
      refine z_aload_n hX dX10_text_99 rfl 100 rfl ?_
      refine z_getF hX fX10_52 dX10_text_100 zs_98 (by decide) rfl 103 rfl ?_
      refine z_iload_n hX dX10_text_103 rfl 104 rfl ?_
      refine z_iconst hX dX10_text_104 qi_0 105 rfl ?_
      obtain ⟨hb, h74_⟩ := zgd h73_
      refine z_iast hX dX10_text_105 zs_113 (zok_in hb) 106 rfl ?_
      refine z_mem h74_ (fun M75_ h76_ => ?_)
      refine z_iinc (v := (s.1 + 1)) hX dX10_text_106 rfl (by rfl) (by decide) 109 rfl ?_
      refine z_goto hX dX10_text_109 86 (by decide) ?_
      refine z_mask [true, false, true] ?_
      have hz := hrc86 _ h76_
      exact hz
def gX10_text_J75 (x2 : Int32) (y1 : Int32) (y2 : Int32) (rc47 : (Int32 × zM) → Option (Int32 × zM)) (M : zM) : Option (Int32 × zM) :=
  zcV (gX10_reads y1 y2 M) (fun M77_ => rc47 ((x2 + 1), M77_))
set_option maxRecDepth 100000 in
set_option maxHeartbeats 2000000 in
theorem aX10_text_J75 {G : zG} {X : zX} {x2 : Int32} {y1 : Int32} {y2 : Int32} (hX : zC G X cX10_text 3 RX10 (some .int) 211)  {rc47 : (Int32 × zM) → Option (Int32 × zM)} {M : zM} {res : (Int32 × zM)} (hrc47 : ∀ s : (Int32 × zM), rc47 s = some res → Z G X (zQi res) 47 [some (.ref 98), none, some (.int s.1)] [] s.2) (h : gX10_text_J75 x2 y1 y2 rc47 M = some res) : Z G X (zQi res) 75 [some (.ref 98), none, some (.int x2)] [.int y2, .int y1, .ref 98] M := by
  unfold gX10_text_J75 at h
  obtain ⟨M77_, hq, h78_⟩ := zcV_of h
  refine z_callV hX vX10_reads lX10_245 dX10_text_75 zs_98 rfl (mX10_reads  hq) (by decide) rfl rfl (Nat.le_of_ble_eq_true rfl) 78 rfl (Qv.to (fun M' hv => ?_))
  subst hv
  refine z_iinc (v := (x2 + 1)) hX dX10_text_78 rfl (by rfl) (by decide) 81 rfl ?_
  refine z_goto hX dX10_text_81 47 (by decide) ?_
  refine z_mask [true, false, true] ?_
  have hz := hrc47 _ h78_
  exact hz
def gX10_text_L47  (rc47 : (Int32 × zM) → Option (Int32 × zM)) (s : (Int32 × zM)) : Option (Int32 × zM) :=
  (if 9 ≤ s.1 then zfix zFu (gX10_text_L86 ) (3, s.2)
  else (if s.1 = 3 then gX10_text_J75 s.1 s.1 99 rc47 s.2
  else (if s.1 = 4 then gX10_text_J75 s.1 s.1 1 rc47 s.2
  else gX10_text_J75 s.1 s.1 0 rc47 s.2)))
set_option maxRecDepth 100000 in
set_option maxHeartbeats 2000000 in
theorem aX10_text_L47 {G : zG} {X : zX} (hX : zC G X cX10_text 3 RX10 (some .int) 211)    {res : (Int32 × zM)}  : ∀ (N : Nat) (s : (Int32 × zM)), zfix N (gX10_text_L47 ) s = some res → Z G X (zQi res) 47 [some (.ref 98), none, some (.int s.1)] [] s.2 := by
  intro N
  induction N with
  | zero => intro s h; cases h
  | succ N hrc47 =>
    intro s h
    replace h : gX10_text_L47  (zfix N (gX10_text_L47 )) s = some res := h
    unfold gX10_text_L47 at h
    refine z_iload_n hX dX10_text_47 rfl 48 rfl ?_
    refine z_bipush hX dX10_text_48 qb_9 50 rfl ?_
    refine z_icmp_ge hX dX10_text_50 84 53 (by decide) rfl (fun hc => ?_) (fun hc => ?_)
    · rw [if_pos hc] at h
      refine z_iconst hX dX10_text_84 qi_3 85 rfl ?_
      refine z_istore_n hX dX10_text_85 (by decide) 86 rfl ?_
      refine z_mask [true, false, true] ?_
      have hz := aX10_text_L86 hX _ _ h
      exact hz
    · rw [if_neg hc] at h
      refine z_aload_n hX dX10_text_53 rfl 54 rfl ?_
      refine z_iload_n hX dX10_text_54 rfl 55 rfl ?_
      refine z_iload_n hX dX10_text_55 rfl 56 rfl ?_
      refine z_iconst hX dX10_text_56 qi_3 57 rfl ?_
      refine z_icmp_ne hX dX10_text_57 65 60 (by decide) rfl (fun hc => ?_) (fun hc => ?_)
      · rw [if_neg hc] at h
        refine z_iload_n hX dX10_text_65 rfl 66 rfl ?_
        refine z_iconst hX dX10_text_66 qi_4 67 rfl ?_
        refine z_icmp_ne hX dX10_text_67 74 70 (by decide) rfl (fun hc => ?_) (fun hc => ?_)
        · rw [if_neg hc] at h
          refine z_iconst hX dX10_text_74 qi_0 75 rfl ?_
          refine z_mask [true, false, true] ?_
          have hz := aX10_text_J75 hX hrc47 h
          exact hz
        · rw [if_pos hc] at h
          refine z_iconst hX dX10_text_70 qi_1 71 rfl ?_
          refine z_goto hX dX10_text_71 75 (by decide) ?_
          refine z_mask [true, false, true] ?_
          have hz := aX10_text_J75 hX hrc47 h
          exact hz
      · rw [if_pos hc] at h
        refine z_bipush hX dX10_text_60 qb_99 62 rfl ?_
        refine z_goto hX dX10_text_62 75 (by decide) ?_
        refine z_mask [true, false, true] ?_
        have hz := aX10_text_J75 hX hrc47 h
        exact hz
def gX10_text (x1 : Int32) (M : zM) : Option (Int32 × zM) :=
  zlet (zI M 98 0 0) (fun M1_ => (if x1 < 0 then some ((-2), M1_)
  else (if x1 ≤ (M1_.1 98 2) then zlet (zI M1_ 98 21 x1) (fun M3_ => zlet (zI M3_ 98 2 0) (fun M5_ => zlet (zI M5_ 98 22 0) (fun M7_ => zlet (zI M7_ 98 26 0) (fun M9_ => zlet (zI M9_ 98 27 (-1)) (fun M11_ => zfix zFu (gX10_text_L47 ) (0, M11_))))))
  else some ((-2), M1_))))
set_option maxRecDepth 100000 in
set_option maxHeartbeats 2000000 in
theorem mX10_text {G : zG} {x1 : Int32} {M : zM}  {res : (Int32 × zM)} (h : gX10_text x1 M = some res) : Ct G 211 tX10_text [.ref 98, .int x1] M (zQi res) := by
  unfold gX10_text at h
  refine Ct.of (y := yX10_text) rfl plX10 (Nat.le_of_ble_eq_true rfl) (fun X hX => ?_)
  replace hX : zC G X cX10_text 3 RX10 (some .int) 211 := hX
  show Z G X _ 0 [some (.ref 98), some (.int x1), none] [] M
  refine z_aload_n hX dX10_text_0 rfl 1 rfl ?_
  refine z_iconst hX dX10_text_1 qi_0 2 rfl ?_
  refine z_putI hX pX10_154 dX10_text_2 zs_98 (by decide) rfl 5 rfl ?_
  refine z_mem h (fun M1_ h2_ => ?_)
  refine z_iload_n hX dX10_text_5 rfl 6 rfl ?_
  refine z_if_lt hX dX10_text_6 17 9 (by decide) rfl (fun hc => ?_) (fun hc => ?_)
  · rw [if_pos hc] at h2_
    refine z_bipush hX dX10_text_17 qb_m2 19 rfl ?_
    exact z_ireturn hX dX10_text_19 (zend_i h2_)
  · rw [if_neg hc] at h2_
    refine z_iload_n hX dX10_text_9 rfl 10 rfl ?_
    refine z_aload_n hX dX10_text_10 rfl 11 rfl ?_
    refine z_getI hX fX10_157 dX10_text_11 zs_98 (by decide) rfl 14 rfl ?_
    refine z_icmp_le hX dX10_text_14 20 17 (by decide) rfl (fun hc => ?_) (fun hc => ?_)
    · rw [if_pos hc] at h2_
      refine z_aload_n hX dX10_text_20 rfl 21 rfl ?_
      refine z_iload_n hX dX10_text_21 rfl 22 rfl ?_
      refine z_putI hX pX10_163 dX10_text_22 zs_98 (by decide) rfl 25 rfl ?_
      refine z_mem h2_ (fun M3_ h4_ => ?_)
      refine z_aload_n hX dX10_text_25 rfl 26 rfl ?_
      refine z_iconst hX dX10_text_26 qi_0 27 rfl ?_
      refine z_putI hX pX10_157 dX10_text_27 zs_98 (by decide) rfl 30 rfl ?_
      refine z_mem h4_ (fun M5_ h6_ => ?_)
      refine z_aload_n hX dX10_text_30 rfl 31 rfl ?_
      refine z_iconst hX dX10_text_31 qi_0 32 rfl ?_
      refine z_putI hX pX10_160 dX10_text_32 zs_98 (by decide) rfl 35 rfl ?_
      refine z_mem h6_ (fun M7_ h8_ => ?_)
      refine z_aload_n hX dX10_text_35 rfl 36 rfl ?_
      refine z_iconst hX dX10_text_36 qi_0 37 rfl ?_
      refine z_putI hX pX10_208 dX10_text_37 zs_98 (by decide) rfl 40 rfl ?_
      refine z_mem h8_ (fun M9_ h10_ => ?_)
      refine z_aload_n hX dX10_text_40 rfl 41 rfl ?_
      refine z_iconst hX dX10_text_41 qi_m1 42 rfl ?_
      refine z_putI hX pX10_211 dX10_text_42 zs_98 (by decide) rfl 45 rfl ?_
      refine z_mem h10_ (fun M11_ h12_ => ?_)
      refine z_iconst hX dX10_text_45 qi_0 46 rfl ?_
      refine z_istore_n hX dX10_text_46 (by decide) 47 rfl ?_
      refine z_mask [true, false, true] ?_
      have hz := aX10_text_L47 hX _ _ h12_
      exact hz
    · rw [if_neg hc] at h2_
      refine z_bipush hX dX10_text_17 qb_m2 19 rfl ?_
      exact z_ireturn hX dX10_text_19 (zend_i h2_)
def gX10_fault (x1 : Int32) (M : zM) : Option (Int32 × zM) :=
  zlet (zI M 98 0 0) (fun M1_ => (if x1 = 0 then some ((M1_.1 98 28), M1_)
  else (if x1 = 1 then some ((M1_.1 98 29), M1_)
  else some ((-1), M1_))))
set_option maxRecDepth 100000 in
set_option maxHeartbeats 2000000 in
theorem mX10_fault {G : zG} {x1 : Int32} {M : zM}  {res : (Int32 × zM)} (h : gX10_fault x1 M = some res) : Ct G 1 tX10_fault [.ref 98, .int x1] M (zQi res) := by
  unfold gX10_fault at h
  refine Ct.of (y := yX10_fault) rfl plX10 (Nat.le_of_ble_eq_true rfl) (fun X hX => ?_)
  replace hX : zC G X cX10_fault 2 RX10 (some .int) 1 := hX
  show Z G X _ 0 [some (.ref 98), some (.int x1)] [] M
  refine z_aload_n hX dX10_fault_0 rfl 1 rfl ?_
  refine z_iconst hX dX10_fault_1 qi_0 2 rfl ?_
  refine z_putI hX pX10_154 dX10_fault_2 zs_98 (by decide) rfl 5 rfl ?_
  refine z_mem h (fun M1_ h2_ => ?_)
  refine z_iload_n hX dX10_fault_5 rfl 6 rfl ?_
  refine z_if_ne hX dX10_fault_6 16 9 (by decide) rfl (fun hc => ?_) (fun hc => ?_)
  · rw [if_neg hc] at h2_
    refine z_iload_n hX dX10_fault_16 rfl 17 rfl ?_
    refine z_iconst hX dX10_fault_17 qi_1 18 rfl ?_
    refine z_icmp_ne hX dX10_fault_18 28 21 (by decide) rfl (fun hc => ?_) (fun hc => ?_)
    · rw [if_neg hc] at h2_
      refine z_iconst hX dX10_fault_28 qi_m1 29 rfl ?_
      exact z_ireturn hX dX10_fault_29 (zend_i h2_)
    · rw [if_pos hc] at h2_
      refine z_aload_n hX dX10_fault_21 rfl 22 rfl ?_
      refine z_getI hX fX10_61 dX10_fault_22 zs_98 (by decide) rfl 25 rfl ?_
      refine z_goto hX dX10_fault_25 29 (by decide) ?_
      exact z_ireturn hX dX10_fault_29 (zend_i h2_)
  · rw [if_pos hc] at h2_
    refine z_aload_n hX dX10_fault_9 rfl 10 rfl ?_
    refine z_getI hX fX10_297 dX10_fault_10 zs_98 (by decide) rfl 13 rfl ?_
    refine z_goto hX dX10_fault_13 29 (by decide) ?_
    exact z_ireturn hX dX10_fault_29 (zend_i h2_)
def gX10_named (x1 : Int32) (x2 : Int32) (M : zM) : Option (Int32 × zM) :=
  zlet (zI M 98 0 0) (fun M1_ => (if x1 = 0 then zcI (gX10_found 101 12 0 (M1_.1 100 (0 : Int32).toNatClampNeg) x2 M1_) (fun v3_ => some (v3_, M1_))
  else if x1 = 1 then zcI (gX10_found 105 16 0 (M1_.1 100 (1 : Int32).toNatClampNeg) x2 M1_) (fun v5_ => some (v5_, M1_))
  else some ((-1), M1_)))
set_option maxRecDepth 100000 in
set_option maxHeartbeats 2000000 in
theorem mX10_named {G : zG} {x1 : Int32} {x2 : Int32} {M : zM}  {res : (Int32 × zM)} (h : gX10_named x1 x2 M = some res) : Ct G 2 tX10_named [.ref 98, .int x1, .int x2] M (zQi res) := by
  unfold gX10_named at h
  refine Ct.of (y := yX10_named) rfl plX10 (Nat.le_of_ble_eq_true rfl) (fun X hX => ?_)
  replace hX : zC G X cX10_named 3 RX10 (some .int) 2 := hX
  show Z G X _ 0 [some (.ref 98), some (.int x1), some (.int x2)] [] M
  refine z_aload_n hX dX10_named_0 rfl 1 rfl ?_
  refine z_iconst hX dX10_named_1 qi_0 2 rfl ?_
  refine z_putI hX pX10_154 dX10_named_2 zs_98 (by decide) rfl 5 rfl ?_
  refine z_mem h (fun M1_ h2_ => ?_)
  refine z_iload_n hX dX10_named_5 rfl 6 rfl ?_
  by_cases hc0 : x1 = 0
  · rw [if_pos hc0] at h2_
    refine z_look hX dX10_named_6 (by decide) (by rw [hc0] <;> rfl) 32 (by decide) ?_
    refine z_aload_n hX dX10_named_32 rfl 33 rfl ?_
    refine z_getF hX fX10_16 dX10_named_33 zs_98 (by decide) rfl 36 rfl ?_
    refine z_iconst hX dX10_named_36 qi_0 37 rfl ?_
    refine z_aload_n hX dX10_named_37 rfl 38 rfl ?_
    refine z_getF hX fX10_13 dX10_named_38 zs_98 (by decide) rfl 41 rfl ?_
    refine z_iconst hX dX10_named_41 qi_0 42 rfl ?_
    refine z_iald hX dX10_named_42 zs_100 (zok_in (by decide)) 43 rfl ?_
    refine z_iload_n hX dX10_named_43 rfl 44 rfl ?_
    obtain ⟨v3_, hq, h4_⟩ := zcI_of h2_
    refine z_callS hX vX10_found rfl lX10_220 dX10_named_44 (mX10_found zs_101 (by decide) hq) (by decide) rfl rfl (Nat.le_of_ble_eq_true rfl) 47 rfl (Qi.to (fun v' M' hv => ?_))
    obtain ⟨rfl, rfl⟩ := hv
    exact z_ireturn hX dX10_named_47 (zend_i h4_)
  rw [if_neg hc0] at h2_
  by_cases hc1 : x1 = 1
  · rw [if_pos hc1] at h2_
    refine z_look hX dX10_named_6 (by decide) (by rw [hc1] <;> rfl) 48 (by decide) ?_
    refine z_aload_n hX dX10_named_48 rfl 49 rfl ?_
    refine z_getF hX fX10_28 dX10_named_49 zs_98 (by decide) rfl 52 rfl ?_
    refine z_iconst hX dX10_named_52 qi_0 53 rfl ?_
    refine z_aload_n hX dX10_named_53 rfl 54 rfl ?_
    refine z_getF hX fX10_13 dX10_named_54 zs_98 (by decide) rfl 57 rfl ?_
    refine z_iconst hX dX10_named_57 qi_1 58 rfl ?_
    refine z_iald hX dX10_named_58 zs_100 (zok_in (by decide)) 59 rfl ?_
    refine z_iload_n hX dX10_named_59 rfl 60 rfl ?_
    obtain ⟨v5_, hq, h6_⟩ := zcI_of h2_
    refine z_callS hX vX10_found rfl lX10_220 dX10_named_60 (mX10_found zs_105 (by decide) hq) (by decide) rfl rfl (Nat.le_of_ble_eq_true rfl) 63 rfl (Qi.to (fun v' M' hv => ?_))
    obtain ⟨rfl, rfl⟩ := hv
    exact z_ireturn hX dX10_named_63 (zend_i h6_)
  rw [if_neg hc1] at h2_
  refine z_look hX dX10_named_6 (by decide) (zlk_out [0, 1] (by decide) (by simp only [List.forall_mem_cons]; exact ⟨hc0, hc1, fun _ h => absurd h List.not_mem_nil⟩)) 64 (by decide) ?_
  refine z_iconst hX dX10_named_64 qi_m1 65 rfl ?_
  exact z_ireturn hX dX10_named_65 (zend_i h2_)
