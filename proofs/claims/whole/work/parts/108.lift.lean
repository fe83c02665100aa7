def gX9_isRest (x1 : Int32) (x2 : Int32) (x3 : Int32) (M : zM) : Option Int32 :=
  zlet (((x3 : Int32) >>> ((1 : Int32) &&& 31))) (fun x1_ => zcI (gX9_gain x1 x1_ (x3 &&& 1) M) (fun v3_ => zcI (gX9_gain x1 (1 - x1_) (x3 &&& 1) M) (fun v5_ => (if v3_ < v5_ then some 0
  else zcI (gX9_gain x2 (x3 &&& 1) x1_ M) (fun v7_ => zcI (gX9_gain x2 (1 - (x3 &&& 1)) x1_ M) (fun v9_ => (if v7_ < v9_ then some 0
  else some 1)))))))
set_option maxRecDepth 100000 in
set_option maxHeartbeats 2000000 in
theorem mX9_isRest {G : zG} {x1 : Int32} {x2 : Int32} {x3 : Int32} {M : zM}  {res : Int32} (h : gX9_isRest x1 x2 x3 M = some res) : Ct G 3 tX9_isRest [.ref 0, .int x1, .int x2, .int x3] M (zQip M res) := by
  unfold gX9_isRest at h
  refine Ct.of (y := yX9_isRest) rfl plX9 (Nat.le_of_ble_eq_true rfl) (fun X hX => ?_)
  replace hX : zC G X cX9_isRest 6 RX9 (some .boolean) 3 := hX
  show Z G X _ 0 [some (.ref 0), some (.int x1), some (.int x2), some (.int x3), none, none] [] M
  refine z_iload_n hX dX9_isRest_0 rfl 1 rfl ?_
  refine z_iconst hX dX9_isRest_1 qi_1 2 rfl ?_
  refine z_ishr hX dX9_isRest_2 3 rfl ?_
  refine z_topi h (fun x1_ h2_ => ?_)
  refine z_istore hX dX9_isRest_3 (by decide) 5 rfl ?_
  refine z_iload_n hX dX9_isRest_5 rfl 6 rfl ?_
  refine z_iconst hX dX9_isRest_6 qi_1 7 rfl ?_
  refine z_iand hX dX9_isRest_7 8 rfl ?_
  refine z_istore hX dX9_isRest_8 (by decide) 10 rfl ?_
  refine z_aload_n hX dX9_isRest_10 rfl 11 rfl ?_
  refine z_iload_n hX dX9_isRest_11 rfl 12 rfl ?_
  refine z_iload hX dX9_isRest_12 rfl 14 rfl ?_
  refine z_iload hX dX9_isRest_14 rfl 16 rfl ?_
  obtain ⟨v3_, hq, h4_⟩ := zcI_of h2_
  refine z_callV hX vX9_gain lX9_333 dX9_isRest_16 zs_0 rfl (mX9_gain  hq) (by decide) rfl rfl (Nat.le_of_ble_eq_true rfl) 19 rfl (Qi.to (fun v' M' hv => ?_))
  obtain ⟨rfl, rfl⟩ := hv
  refine z_aload_n hX dX9_isRest_19 rfl 20 rfl ?_
  refine z_iload_n hX dX9_isRest_20 rfl 21 rfl ?_
  refine z_iconst hX dX9_isRest_21 qi_1 22 rfl ?_
  refine z_iload hX dX9_isRest_22 rfl 24 rfl ?_
  refine z_isub hX dX9_isRest_24 25 rfl ?_
  refine z_iload hX dX9_isRest_25 rfl 27 rfl ?_
  obtain ⟨v5_, hq, h6_⟩ := zcI_of h4_
  refine z_callV hX vX9_gain lX9_333 dX9_isRest_27 zs_0 rfl (mX9_gain  hq) (by decide) rfl rfl (Nat.le_of_ble_eq_true rfl) 30 rfl (Qi.to (fun v' M' hv => ?_))
  obtain ⟨rfl, rfl⟩ := hv
  refine z_icmp_lt hX dX9_isRest_30 60 33 (by decide) rfl (fun hc => ?_) (fun hc => ?_)
  · rw [if_pos hc] at h6_
    refine z_iconst hX dX9_isRest_60 qi_0 61 rfl ?_
    exact z_zreturn hX dX9_isRest_61 (by decide) (zend_ip h6_)
  · rw [if_neg hc] at h6_
    refine z_aload_n hX dX9_isRest_33 rfl 34 rfl ?_
    refine z_iload_n hX dX9_isRest_34 rfl 35 rfl ?_
    refine z_iload hX dX9_isRest_35 rfl 37 rfl ?_
    refine z_iload hX dX9_isRest_37 rfl 39 rfl ?_
    obtain ⟨v7_, hq, h8_⟩ := zcI_of h6_
    refine z_callV hX vX9_gain lX9_333 dX9_isRest_39 zs_0 rfl (mX9_gain  hq) (by decide) rfl rfl (Nat.le_of_ble_eq_true rfl) 42 rfl (Qi.to (fun v' M' hv => ?_))
    obtain ⟨rfl, rfl⟩ := hv
    refine z_aload_n hX dX9_isRest_42 rfl 43 rfl ?_
    refine z_iload_n hX dX9_isRest_43 rfl 44 rfl ?_
    refine z_iconst hX dX9_isRest_44 qi_1 45 rfl ?_
    refine z_iload hX dX9_isRest_45 rfl 47 rfl ?_
    refine z_isub hX dX9_isRest_47 48 rfl ?_
    refine z_iload hX dX9_isRest_48 rfl 50 rfl ?_
    obtain ⟨v9_, hq, h10_⟩ := zcI_of h8_
    refine z_callV hX vX9_gain lX9_333 dX9_isRest_50 zs_0 rfl (mX9_gain  hq) (by decide) rfl rfl (Nat.le_of_ble_eq_true rfl) 53 rfl (Qi.to (fun v' M' hv => ?_))
    obtain ⟨rfl, rfl⟩ := hv
    refine z_icmp_lt hX dX9_isRest_53 60 56 (by decide) rfl (fun hc => ?_) (fun hc => ?_)
    · rw [if_pos hc] at h10_
      refine z_iconst hX dX9_isRest_60 qi_0 61 rfl ?_
      exact z_zreturn hX dX9_isRest_61 (by decide) (zend_ip h10_)
    · rw [if_neg hc] at h10_
      refine z_iconst hX dX9_isRest_56 qi_1 57 rfl ?_
      refine z_goto hX dX9_isRest_57 61 (by decide) ?_
      exact z_zreturn hX dX9_isRest_61 (by decide) (zend_ip h10_)
def gX9_rests_L16 (x1 : Int32) (x2 : Int32) (M : zM) (rc16 : (Int32 × Int32) → Option Int32) (s : (Int32 × Int32)) : Option Int32 :=
  (if 4 ≤ s.2 then some s.1
  else zcI (gX9_isRest x1 x2 s.2 M) (fun v3_ => (if v3_ = 0 then rc16 (s.1, (s.2 + 1))
  else rc16 ((s.1 + 1), (s.2 + 1)))))
set_option maxRecDepth 100000 in
set_option maxHeartbeats 2000000 in
theorem aX9_rests_L16 {G : zG} {X : zX} {x1 : Int32} {x2 : Int32} (hX : zC G X cX9_rests 5 RX9 (some .int) 4)   {M : zM} {res : Int32}  : ∀ (N : Nat) (s : (Int32 × Int32)), zfix N (gX9_rests_L16 x1 x2 M) s = some res → Z G X (zQip M res) 16 [some (.ref 0), some (.int x1), some (.int x2), some (.int s.1), some (.int s.2)] [] M := by
  intro N
  induction N with
  | zero => intro s h; cases h
  | succ N hrc16 =>
    intro s h
    replace h : gX9_rests_L16 x1 x2 M (zfix N (gX9_rests_L16 x1 x2 M)) s = some res := h
    unfold gX9_rests_L16 at h
    refine z_iload hX dX9_rests_16 rfl 18 rfl ?_
    refine z_iconst hX dX9_rests_18 qi_4 19 rfl ?_
    refine z_icmp_ge hX dX9_rests_19 42 22 (by decide) rfl (fun hc => ?_) (fun hc => ?_)
    · rw [if_pos hc] at h
      refine z_iload_n hX dX9_rests_42 rfl 43 rfl ?_
      exact z_ireturn hX dX9_rests_43 (zend_ip h)
    · rw [if_neg hc] at h
      refine z_aload_n hX dX9_rests_22 rfl 23 rfl ?_
      refine z_iload_n hX dX9_rests_23 rfl 24 rfl ?_
      refine z_iload_n hX dX9_rests_24 rfl 25 rfl ?_
      refine z_iload hX dX9_rests_25 rfl 27 rfl ?_
      obtain ⟨v3_, hq, h4_⟩ := zcI_of h
      refine z_callV hX vX9_isRest lX9_330 dX9_rests_27 zs_0 rfl (mX9_isRest  hq) (by decide) rfl rfl (Nat.le_of_ble_eq_true rfl) 30 rfl (Qi.to (fun v' M' hv => ?_))
      obtain ⟨rfl, rfl⟩ := hv
      refine z_if_eq hX dX9_rests_30 36 33 (by decide) rfl (fun hc => ?_) (fun hc => ?_)
      · rw [if_pos hc] at h4_
        refine z_iinc (v := (s.2 + 1)) hX dX9_rests_36 rfl (by rfl) (by decide) 39 rfl ?_
        refine z_goto hX dX9_rests_39 16 (by decide) ?_
        refine z_mask [true, true, true, true, true] ?_
        have hz := hrc16 _ h4_
        exact hz
      · rw [if_neg hc] at h4_
        refine z_iinc (v := (s.1 + 1)) hX dX9_rests_33 rfl (by rfl) (by decide) 36 rfl ?_
        refine z_iinc (v := (s.2 + 1)) hX dX9_rests_36 rfl (by rfl) (by decide) 39 rfl ?_
        refine z_goto hX dX9_rests_39 16 (by decide) ?_
        refine z_mask [true, true, true, true, true] ?_
        have hz := hrc16 _ h4_
        exact hz
def gX9_rests (x1 : Int32) (x2 : Int32) (M : zM) : Option Int32 :=
  zcI (gX9_areTwo x1 x2 M) (fun v1_ => (if v1_ = 0 then some (-1)
  else zfix zFu (gX9_rests_L16 x1 x2 M) (0, 0)))
set_option maxRecDepth 100000 in
set_option maxHeartbeats 2000000 in
theorem mX9_rests {G : zG} {x1 : Int32} {x2 : Int32} {M : zM}  {res : Int32} (h : gX9_rests x1 x2 M = some res) : Ct G 4 tX9_rests [.ref 0, .int x1, .int x2] M (zQip M res) := by
  unfold gX9_rests at h
  refine Ct.of (y := yX9_rests) rfl plX9 (Nat.le_of_ble_eq_true rfl) (fun X hX => ?_)
  replace hX : zC G X cX9_rests 5 RX9 (some .int) 4 := hX
  show Z G X _ 0 [some (.ref 0), some (.int x1), some (.int x2), none, none] [] M
  refine z_aload_n hX dX9_rests_0 rfl 1 rfl ?_
  refine z_iload_n hX dX9_rests_1 rfl 2 rfl ?_
  refine z_iload_n hX dX9_rests_2 rfl 3 rfl ?_
  obtain ⟨v1_, hq, h2_⟩ := zcI_of h
  refine z_callV hX vX9_areTwo lX9_243 dX9_rests_3 zs_0 rfl (mX9_areTwo  hq) (by decide) rfl rfl (Nat.le_of_ble_eq_true rfl) 6 rfl (Qi.to (fun v' M' hv => ?_))
  obtain ⟨rfl, rfl⟩ := hv
  refine z_if_ne hX dX9_rests_6 11 9 (by decide) rfl (fun hc => ?_) (fun hc => ?_)
  · rw [if_neg hc] at h2_
    refine z_iconst hX dX9_rests_11 qi_0 12 rfl ?_
    refine z_istore_n hX dX9_rests_12 (by decide) 13 rfl ?_
    refine z_iconst hX dX9_rests_13 qi_0 14 rfl ?_
    refine z_istore hX dX9_rests_14 (by decide) 16 rfl ?_
    refine z_mask [true, true, true, true, true] ?_
    have hz := aX9_rests_L16 hX _ _ h2_
    exact hz
  · rw [if_pos hc] at h2_
    refine z_iconst hX dX9_rests_9 qi_m1 10 rfl ?_
    exact z_ireturn hX dX9_rests_10 (zend_ip h2_)
def gX9_rest_L21 (x1 : Int32) (x2 : Int32) (M : zM) (rc21 : (Int32 × Int32) → Option Int32) (s : (Int32 × Int32)) : Option Int32 :=
  (if 4 ≤ s.2 then some (-2)
  else zcI (gX9_isRest x1 x2 s.2 M) (fun v3_ => (if v3_ = 0 then rc21 (s.1, (s.2 + 1))
  else (if s.1 = 0 then some ((10 * ((s.2 : Int32) >>> ((1 : Int32) &&& 31))) + (s.2 &&& 1))
  else rc21 ((s.1 + (-1)), (s.2 + 1))))))
set_option maxRecDepth 100000 in
set_option maxHeartbeats 2000000 in
theorem aX9_rest_L21 {G : zG} {X : zX} {x1 : Int32} {x2 : Int32} (hX : zC G X cX9_rest 6 RX9 (some .int) 4)   {M : zM} {res : Int32}  : ∀ (N : Nat) (s : (Int32 × Int32)), zfix N (gX9_rest_L21 x1 x2 M) s = some res → Z G X (zQip M res) 21 [some (.ref 0), some (.int x1), some (.int x2), none, some (.int s.1), some (.int s.2)] [] M := by
  intro N
  induction N with
  | zero => intro s h; cases h
  | succ N hrc21 =>
    intro s h
    replace h : gX9_rest_L21 x1 x2 M (zfix N (gX9_rest_L21 x1 x2 M)) s = some res := h
    unfold gX9_rest_L21 at h
    refine z_iload hX dX9_rest_21 rfl 23 rfl ?_
    refine z_iconst hX dX9_rest_23 qi_4 24 rfl ?_
    refine z_icmp_ge hX dX9_rest_24 65 27 (by decide) rfl (fun hc => ?_) (fun hc => ?_)
    · rw [if_pos hc] at h
      refine z_bipush hX dX9_rest_65 qb_m2 67 rfl ?_
      exact z_ireturn hX dX9_rest_67 (zend_ip h)
    · rw [if_neg hc] at h
      refine z_aload_n hX dX9_rest_27 rfl 28 rfl ?_
      refine z_iload_n hX dX9_rest_28 rfl 29 rfl ?_
      refine z_iload_n hX dX9_rest_29 rfl 30 rfl ?_
      refine z_iload hX dX9_rest_30 rfl 32 rfl ?_
      obtain ⟨v3_, hq, h4_⟩ := zcI_of h
      refine z_callV hX vX9_isRest lX9_330 dX9_rest_32 zs_0 rfl (mX9_isRest  hq) (by decide) rfl rfl (Nat.le_of_ble_eq_true rfl) 35 rfl (Qi.to (fun v' M' hv => ?_))
      obtain ⟨rfl, rfl⟩ := hv
      refine z_if_eq hX dX9_rest_35 59 38 (by decide) rfl (fun hc => ?_) (fun hc => ?_)
      · rw [if_pos hc] at h4_
        refine z_iinc (v := (s.2 + 1)) hX dX9_rest_59 rfl (by rfl) (by decide) 62 rfl ?_
        refine z_goto hX dX9_rest_62 21 (by decide) ?_
        refine z_mask [true, true, true, false, true, true] ?_
        have hz := hrc21 _ h4_
        exact hz
      · rw [if_neg hc] at h4_
        refine z_iload hX dX9_rest_38 rfl 40 rfl ?_
        refine z_if_ne hX dX9_rest_40 56 43 (by decide) rfl (fun hc => ?_) (fun hc => ?_)
        · rw [if_neg hc] at h4_
          refine z_iinc (v := (s.1 + (-1))) hX dX9_rest_56 rfl (by rfl) (by decide) 59 rfl ?_
          refine z_iinc (v := (s.2 + 1)) hX dX9_rest_59 rfl (by rfl) (by decide) 62 rfl ?_
          refine z_goto hX dX9_rest_62 21 (by decide) ?_
          refine z_mask [true, true, true, false, true, true] ?_
          have hz := hrc21 _ h4_
          exact hz
        · rw [if_pos hc] at h4_
          refine z_bipush hX dX9_rest_43 qb_10 45 rfl ?_
          refine z_iload hX dX9_rest_45 rfl 47 rfl ?_
          refine z_iconst hX dX9_rest_47 qi_1 48 rfl ?_
          refine z_ishr hX dX9_rest_48 49 rfl ?_
          refine z_imul hX dX9_rest_49 50 rfl ?_
          refine z_iload hX dX9_rest_50 rfl 52 rfl ?_
          refine z_iconst hX dX9_rest_52 qi_1 53 rfl ?_
          refine z_iand hX dX9_rest_53 54 rfl ?_
          refine z_iadd hX dX9_rest_54 55 rfl ?_
          exact z_ireturn hX dX9_rest_55 (zend_ip h4_)
def gX9_rest (x1 : Int32) (x2 : Int32) (x3 : Int32) (M : zM) : Option Int32 :=
  zcI (gX9_areTwo x1 x2 M) (fun v1_ => (if v1_ = 0 then some (-1)
  else (if 0 ≤ x3 then zfix zFu (gX9_rest_L21 x1 x2 M) (x3, 0)
  else some (-1))))
set_option maxRecDepth 100000 in
set_option maxHeartbeats 2000000 in
theorem mX9_rest {G : zG} {x1 : Int32} {x2 : Int32} {x3 : Int32} {M : zM}  {res : Int32} (h : gX9_rest x1 x2 x3 M = some res) : Ct G 4 tX9_rest [.ref 0, .int x1, .int x2, .int x3] M (zQip M res) := by
  unfold gX9_rest at h
  refine Ct.of (y := yX9_rest) rfl plX9 (Nat.le_of_ble_eq_true rfl) (fun X hX => ?_)
  replace hX : zC G X cX9_rest 6 RX9 (some .int) 4 := hX
  show Z G X _ 0 [some (.ref 0), some (.int x1), some (.int x2), some (.int x3), none, none] [] M
  refine z_aload_n hX dX9_rest_0 rfl 1 rfl ?_
  refine z_iload_n hX dX9_rest_1 rfl 2 rfl ?_
  refine z_iload_n hX dX9_rest_2 rfl 3 rfl ?_
  obtain ⟨v1_, hq, h2_⟩ := zcI_of h
  refine z_callV hX vX9_areTwo lX9_243 dX9_rest_3 zs_0 rfl (mX9_areTwo  hq) (by decide) rfl rfl (Nat.le_of_ble_eq_true rfl) 6 rfl (Qi.to (fun v' M' hv => ?_))
  obtain ⟨rfl, rfl⟩ := hv
  refine z_if_eq hX dX9_rest_6 13 9 (by decide) rfl (fun hc => ?_) (fun hc => ?_)
  · rw [if_pos hc] at h2_
    refine z_iconst hX dX9_rest_13 qi_m1 14 rfl ?_
    exact z_ireturn hX dX9_rest_14 (zend_ip h2_)
  · rw [if_neg hc] at h2_
    refine z_iload_n hX dX9_rest_9 rfl 10 rfl ?_
    refine z_if_ge hX dX9_rest_10 15 13 (by decide) rfl (fun hc => ?_) (fun hc => ?_)
    · rw [if_pos hc] at h2_
      refine z_iload_n hX dX9_rest_15 rfl 16 rfl ?_
      refine z_istore hX dX9_rest_16 (by decide) 18 rfl ?_
      refine z_iconst hX dX9_rest_18 qi_0 19 rfl ?_
      refine z_istore hX dX9_rest_19 (by decide) 21 rfl ?_
      refine z_mask [true, true, true, false, true, true] ?_
      have hz := aX9_rest_L21 hX _ _ h2_
      exact hz
    · rw [if_neg hc] at h2_
      refine z_iconst hX dX9_rest_13 qi_m1 14 rfl ?_
      exact z_ireturn hX dX9_rest_14 (zend_ip h2_)
def gX9_commonDivisor_L7 (M : zM) (rc7 : (Int32 × Int32 × Int32) → Option Int32) (s : (Int32 × Int32 × Int32)) : Option Int32 :=
  (if 40 ≤ s.2.2 then some s.1
  else (if s.2.1 = 0 then some s.1
  else zg (znz s.2.1) (zlet ((s.1 - s.1 / s.2.1 * s.2.1)) (fun x2_ => rc7 (s.2.1, x2_, (s.2.2 + 1))))))
set_option maxRecDepth 100000 in
set_option maxHeartbeats 2000000 in
theorem aX9_commonDivisor_L7 {G : zG} {X : zX} (hX : zC G X cX9_commonDivisor 6 RX9 (some .int) 1)   {M : zM} {res : Int32}  : ∀ (N : Nat) (s : (Int32 × Int32 × Int32)), zfix N (gX9_commonDivisor_L7 M) s = some res → Z G X (zQip M res) 7 [none, none, some (.int s.1), some (.int s.2.1), some (.int s.2.2), none] [] M := by
  intro N
  induction N with
  | zero => intro s h; cases h
  | succ N hrc7 =>
    intro s h
    replace h : gX9_commonDivisor_L7 M (zfix N (gX9_commonDivisor_L7 M)) s = some res := h
    unfold gX9_commonDivisor_L7 at h
    refine z_iload hX dX9_commonDivisor_7 rfl 9 rfl ?_
    refine z_bipush hX dX9_commonDivisor_9 qb_40 11 rfl ?_
    refine z_icmp_ge hX dX9_commonDivisor_11 34 14 (by decide) rfl (fun hc => ?_) (fun hc => ?_)
    · rw [if_pos hc] at h
      refine z_iload_n hX dX9_commonDivisor_34 rfl 35 rfl ?_
      exact z_ireturn hX dX9_commonDivisor_35 (zend_ip h)
    · rw [if_neg hc] at h
      refine z_iload_n hX dX9_commonDivisor_14 rfl 15 rfl ?_
      refine z_if_eq hX dX9_commonDivisor_15 34 18 (by decide) rfl (fun hc => ?_) (fun hc => ?_)
      · rw [if_pos hc] at h
        refine z_iload_n hX dX9_commonDivisor_34 rfl 35 rfl ?_
        exact z_ireturn hX dX9_commonDivisor_35 (zend_ip h)
      · rw [if_neg hc] at h
        refine z_iload_n hX dX9_commonDivisor_18 rfl 19 rfl ?_
        refine z_iload_n hX dX9_commonDivisor_19 rfl 20 rfl ?_
        obtain ⟨hb, h1_⟩ := zgd h
        refine z_irem hX dX9_commonDivisor_20 (znz_ne hb) 21 rfl ?_
        refine z_topi h1_ (fun x2_ h3_ => ?_)
        refine z_istore hX dX9_commonDivisor_21 (by decide) 23 rfl ?_
        refine z_iload_n hX dX9_commonDivisor_23 rfl 24 rfl ?_
        refine z_istore_n hX dX9_commonDivisor_24 (by decide) 25 rfl ?_
        refine z_iload hX dX9_commonDivisor_25 rfl 27 rfl ?_
        refine z_istore_n hX dX9_commonDivisor_27 (by decide) 28 rfl ?_
        refine z_iinc (v := (s.2.2 + 1)) hX dX9_commonDivisor_28 rfl (by rfl) (by decide) 31 rfl ?_
        refine z_goto hX dX9_commonDivisor_31 7 (by decide) ?_
        refine z_mask [false, false, true, true, true, false] ?_
        have hz := hrc7 _ h3_
        exact hz
def gX9_commonDivisor (x0 : Int32) (x1 : Int32) (M : zM) : Option Int32 :=
  zfix zFu (gX9_commonDivisor_L7 M) (x0, x1, 0)
set_option maxRecDepth 100000 in
set_option maxHeartbeats 2000000 in
theorem mX9_commonDivisor {G : zG} {x0 : Int32} {x1 : Int32} {M : zM}  {res : Int32} (h : gX9_commonDivisor x0 x1 M = some res) : Ct G 1 tX9_commonDivisor [.int x0, .int x1] M (zQip M res) := by
  unfold gX9_commonDivisor at h
  refine Ct.of (y := yX9_commonDivisor) rfl plX9 (Nat.le_of_ble_eq_true rfl) (fun X hX => ?_)
  replace hX : zC G X cX9_commonDivisor 6 RX9 (some .int) 1 := hX
  show Z G X _ 0 [some (.int x0), some (.int x1), none, none, none, none] [] M
  refine z_iload_n hX dX9_commonDivisor_0 rfl 1 rfl ?_
  refine z_istore_n hX dX9_commonDivisor_1 (by decide) 2 rfl ?_
  refine z_iload_n hX dX9_commonDivisor_2 rfl 3 rfl ?_
  refine z_istore_n hX dX9_commonDivisor_3 (by decide) 4 rfl ?_
  refine z_iconst hX dX9_commonDivisor_4 qi_0 5 rfl ?_
  refine z_istore hX dX9_commonDivisor_5 (by decide) 7 rfl ?_
  refine z_mask [false, false, true, true, true, false] ?_
  have hz := aX9_commonDivisor_L7 hX _ _ h
  exact hz
def gX9_comesBack_L81 (x1 : Int32) (z6 : Int64) (M : zM) (rc81 : (Int64 × Int32) → Option Int64) (s : (Int64 × Int32)) : Option Int64 :=
  (if x1 ≤ s.2 then some s.1
  else rc81 ((s.1 * z6), (s.2 + 1)))
set_option maxRecDepth 100000 in
set_option maxHeartbeats 2000000 in
theorem aX9_comesBack_L81 {G : zG} {X : zX} {x1 : Int32} {z6 : Int64} (hX : zC G X cX9_comesBack 11 RX9 (some .long) 2)   {M : zM} {res : Int64}  : ∀ (N : Nat) (s : (Int64 × Int32)), zfix N (gX9_comesBack_L81 x1 z6 M) s = some res → Z G X (zQlp M res) 81 [none, some (.int x1), none, none, none, none, some (.long z6), none, some (.long s.1), none, some (.int s.2)] [] M := by
  intro N
  induction N with
  | zero => intro s h; cases h
  | succ N hrc81 =>
    intro s h
    replace h : gX9_comesBack_L81 x1 z6 M (zfix N (gX9_comesBack_L81 x1 z6 M)) s = some res := h
    unfold gX9_comesBack_L81 at h
    refine z_iload hX dX9_comesBack_81 rfl 83 rfl ?_
    refine z_iload_n hX dX9_comesBack_83 rfl 84 rfl ?_
    refine z_icmp_ge hX dX9_comesBack_84 100 87 (by decide) rfl (fun hc => ?_) (fun hc => ?_)
    · rw [if_pos hc] at h
      refine z_lload hX dX9_comesBack_100 rfl 102 rfl ?_
      exact z_lreturn hX dX9_comesBack_102 (zend_lp h)
    · rw [if_neg hc] at h
      refine z_lload hX dX9_comesBack_87 rfl 89 rfl ?_
      refine z_lload hX dX9_comesBack_89 rfl 91 rfl ?_
      refine z_lmul hX dX9_comesBack_91 92 rfl ?_
      refine z_lstore hX dX9_comesBack_92 (by decide) 94 rfl ?_
      refine z_iinc (v := (s.2 + 1)) hX dX9_comesBack_94 rfl (by rfl) (by decide) 97 rfl ?_
      refine z_goto hX dX9_comesBack_97 81 (by decide) ?_
      refine z_mask [false, true, false, false, false, false, true, false, true, false, true] ?_
      have hz := hrc81 _ h
      exact hz
def gX9_comesBack_J73 (x1 : Int32) (y0 : Int64) (M : zM) : Option Int64 :=
  zfix zFu (gX9_comesBack_L81 x1 y0 M) (1, 0)
set_option maxRecDepth 100000 in
set_option maxHeartbeats 2000000 in
theorem aX9_comesBack_J73 {G : zG} {X : zX} {x1 : Int32} {y0 : Int64} (hX : zC G X cX9_comesBack 11 RX9 (some .long) 2)   {M : zM} {res : Int64}  (h : gX9_comesBack_J73 x1 y0 M = some res) : Z G X (zQlp M res) 73 [none, some (.int x1), none, none, none, none, none, none, none, none, none] [.long y0] M := by
  unfold gX9_comesBack_J73 at h
  refine z_lstore hX dX9_comesBack_73 (by decide) 75 rfl ?_
  refine z_lconst hX dX9_comesBack_75 ql_1 76 rfl ?_
  refine z_lstore hX dX9_comesBack_76 (by decide) 78 rfl ?_
  refine z_iconst hX dX9_comesBack_78 qi_0 79 rfl ?_
  refine z_istore hX dX9_comesBack_79 (by decide) 81 rfl ?_
  refine z_mask [false, true, false, false, false, false, true, false, true, false, true] ?_
  have hz := aX9_comesBack_L81 hX _ _ h
  exact hz
def gX9_comesBack_J54 (x1 : Int32) (x4 : Int32) (y0 : Int32) (M : zM) : Option Int64 :=
  (if x4 ≤ 0 then gX9_comesBack_J73 x1 ((y0 : Int32).toInt64) M
  else zg (znz x4) (gX9_comesBack_J73 x1 (((y0 / x4) : Int32).toInt64) M))
set_option maxRecDepth 100000 in
set_option maxHeartbeats 2000000 in
theorem aX9_comesBack_J54 {G : zG} {X : zX} {x1 : Int32} {x4 : Int32} {y0 : Int32} (hX : zC G X cX9_comesBack 11 RX9 (some .long) 2)   {M : zM} {res : Int64}  (h : gX9_comesBack_J54 x1 x4 y0 M = some res) : Z G X (zQlp M res) 54 [none, some (.int x1), none, none, some (.int x4), none, none, none, none, none, none] [.int y0] M := by
  unfold gX9_comesBack_J54 at h
  refine z_istore hX dX9_comesBack_54 (by decide) 56 rfl ?_
  refine z_iload hX dX9_comesBack_56 rfl 58 rfl ?_
  refine z_if_le hX dX9_comesBack_58 70 61 (by decide) rfl (fun hc => ?_) (fun hc => ?_)
  · rw [if_pos hc] at h
    refine z_iload hX dX9_comesBack_70 rfl 72 rfl ?_
    refine z_i2l hX dX9_comesBack_72 73 rfl ?_
    refine z_mask [false, true, false, false, false, false, false, false, false, false, false] ?_
    have hz := aX9_comesBack_J73 hX h
    exact hz
  · rw [if_neg hc] at h
    refine z_iload hX dX9_comesBack_61 rfl 63 rfl ?_
    refine z_iload hX dX9_comesBack_63 rfl 65 rfl ?_
    obtain ⟨hb, h7_⟩ := zgd h
    refine z_idiv hX dX9_comesBack_65 (znz_ne hb) 66 rfl ?_
    refine z_i2l hX dX9_comesBack_66 67 rfl ?_
    refine z_goto hX dX9_comesBack_67 73 (by decide) ?_
    refine z_mask [false, true, false, false, false, false, false, false, false, false, false] ?_
    have hz := aX9_comesBack_J73 hX h7_
    exact hz
def gX9_comesBack (x1 : Int32) (x2 : Int32) (M : zM) : Option Int64 :=
  (if x1 < 0 then some (-1)
  else (if 6 < x1 then some (-1)
  else (if x2 < 0 then some (-1)
  else (if x2 ≤ 1 then zgP (M.2.2 0 2) (fun p1_ => zlet ((100 - (M.1 (p1_ + 12) (3 : Int32).toNatClampNeg))) (fun x3_ => zcI (gX9_commonDivisor 100 x3_ M) (fun v5_ => (if x2 = 0 then gX9_comesBack_J54 x1 v5_ x3_ M
  else gX9_comesBack_J54 x1 v5_ 100 M))))
  else some (-1)))))
set_option maxRecDepth 100000 in
set_option maxHeartbeats 2000000 in
theorem mX9_comesBack {G : zG} {x1 : Int32} {x2 : Int32} {M : zM}  {res : Int64} (h : gX9_comesBack x1 x2 M = some res) : Ct G 2 tX9_comesBack [.ref 0, .int x1, .int x2] M (zQlp M res) := by
  unfold gX9_comesBack at h
  refine Ct.of (y := yX9_comesBack) rfl plX9 (Nat.le_of_ble_eq_true rfl) (fun X hX => ?_)
  replace hX : zC G X cX9_comesBack 11 RX9 (some .long) 2 := hX
  show Z G X _ 0 [some (.ref 0), some (.int x1), some (.int x2), none, none, none, none, none, none, none, none] [] M
  refine z_iload_n hX dX9_comesBack_0 rfl 1 rfl ?_
  refine z_if_lt hX dX9_comesBack_1 19 4 (by decide) rfl (fun hc => ?_) (fun hc => ?_)
  · rw [if_pos hc] at h
    refine z_ldc2 hX dX9_comesBack_19 kX9_337 22 rfl ?_
    exact z_lreturn hX dX9_comesBack_22 (zend_lp h)
  · rw [if_neg hc] at h
    refine z_iload_n hX dX9_comesBack_4 rfl 5 rfl ?_
    refine z_bipush hX dX9_comesBack_5 qb_6 7 rfl ?_
    refine z_icmp_gt hX dX9_comesBack_7 19 10 (by decide) rfl (fun hc => ?_) (fun hc => ?_)
    · rw [if_pos hc] at h
      refine z_ldc2 hX dX9_comesBack_19 kX9_337 22 rfl ?_
      exact z_lreturn hX dX9_comesBack_22 (zend_lp h)
    · rw [if_neg hc] at h
      refine z_iload_n hX dX9_comesBack_10 rfl 11 rfl ?_
      refine z_if_lt hX dX9_comesBack_11 19 14 (by decide) rfl (fun hc => ?_) (fun hc => ?_)
      · rw [if_pos hc] at h
        refine z_ldc2 hX dX9_comesBack_19 kX9_337 22 rfl ?_
        exact z_lreturn hX dX9_comesBack_22 (zend_lp h)
      · rw [if_neg hc] at h
        refine z_iload_n hX dX9_comesBack_14 rfl 15 rfl ?_
        refine z_iconst hX dX9_comesBack_15 qi_1 16 rfl ?_
        refine z_icmp_le hX dX9_comesBack_16 23 19 (by decide) rfl (fun hc => ?_) (fun hc => ?_)
        · rw [if_pos hc] at h
          refine z_bipush hX dX9_comesBack_23 qb_100 25 rfl ?_
          refine z_aload_n hX dX9_comesBack_25 rfl 26 rfl ?_
          obtain ⟨p1_, hm, hp1_, h2_⟩ := zgP_of h
          refine z_getR hX fX9_18 dX9_comesBack_26 zs_0 (by decide) rfl hm 29 rfl ?_
          refine z_getF hX fX9_339 dX9_comesBack_29 (zsP0 hp1_) (by decide) rfl 32 rfl ?_
          refine z_iconst hX dX9_comesBack_32 qi_3 33 rfl ?_
          refine z_iald hX dX9_comesBack_33 (zsP12 hp1_) (zok_in (by decide)) 34 rfl ?_
          refine z_isub hX dX9_comesBack_34 35 rfl ?_
          refine z_topi h2_ (fun x3_ h4_ => ?_)
          refine z_istore_n hX dX9_comesBack_35 (by decide) 36 rfl ?_
          refine z_bipush hX dX9_comesBack_36 qb_100 38 rfl ?_
          refine z_iload_n hX dX9_comesBack_38 rfl 39 rfl ?_
          obtain ⟨v5_, hq, h6_⟩ := zcI_of h4_
          refine z_callS hX vX9_commonDivisor rfl lX9_342 dX9_comesBack_39 (mX9_commonDivisor  hq) (by decide) rfl rfl (Nat.le_of_ble_eq_true rfl) 42 rfl (Qi.to (fun v' M' hv => ?_))
          obtain ⟨rfl, rfl⟩ := hv
          refine z_istore hX dX9_comesBack_42 (by decide) 44 rfl ?_
          refine z_iload_n hX dX9_comesBack_44 rfl 45 rfl ?_
          refine z_if_ne hX dX9_comesBack_45 52 48 (by decide) rfl (fun hc => ?_) (fun hc => ?_)
          · rw [if_neg hc] at h6_
            refine z_bipush hX dX9_comesBack_52 qb_100 54 rfl ?_
            refine z_mask [false, true, false, false, true, false, false, false, false, false, false] ?_
            have hz := aX9_comesBack_J54 hX h6_
            exact hz
          · rw [if_pos hc] at h6_
            refine z_iload_n hX dX9_comesBack_48 rfl 49 rfl ?_
            refine z_goto hX dX9_comesBack_49 54 (by decide) ?_
            refine z_mask [false, true, false, false, true, false, false, false, false, false, false] ?_
            have hz := aX9_comesBack_J54 hX h6_
            exact hz
        · rw [if_neg hc] at h
          refine z_ldc2 hX dX9_comesBack_19 kX9_337 22 rfl ?_
          exact z_lreturn hX dX9_comesBack_22 (zend_lp h)
def gX9_widow_L33 (x2 : Int32) (M : zM) (rc33 : (Int32 × Int32 × Int32) → Option Int32) (s : (Int32 × Int32 × Int32)) : Option Int32 :=
  (if x2 ≤ s.2.2 then some s.2.1
  else rc33 (((s.1 * 9) / 10), (s.2.1 + s.1), (s.2.2 + 1)))
set_option maxRecDepth 100000 in
set_option maxHeartbeats 2000000 in
theorem aX9_widow_L33 {G : zG} {X : zX} {x2 : Int32} (hX : zC G X cX9_widow 6 RX9 (some .int) 2)   {M : zM} {res : Int32}  : ∀ (N : Nat) (s : (Int32 × Int32 × Int32)), zfix N (gX9_widow_L33 x2 M) s = some res → Z G X (zQip M res) 33 [none, none, some (.int x2), some (.int s.1), some (.int s.2.1), some (.int s.2.2)] [] M := by
  intro N
  induction N with
  | zero => intro s h; cases h
  | succ N hrc33 =>
    intro s h
    replace h : gX9_widow_L33 x2 M (zfix N (gX9_widow_L33 x2 M)) s = some res := h
    unfold gX9_widow_L33 at h
    refine z_iload hX dX9_widow_33 rfl 35 rfl ?_
    refine z_iload_n hX dX9_widow_35 rfl 36 rfl ?_
    refine z_icmp_ge hX dX9_widow_36 59 39 (by decide) rfl (fun hc => ?_) (fun hc => ?_)
    · rw [if_pos hc] at h
      refine z_iload hX dX9_widow_59 rfl 61 rfl ?_
      exact z_ireturn hX dX9_widow_61 (zend_ip h)
    · rw [if_neg hc] at h
      refine z_iload hX dX9_widow_39 rfl 41 rfl ?_
      refine z_iload_n hX dX9_widow_41 rfl 42 rfl ?_
      refine z_iadd hX dX9_widow_42 43 rfl ?_
      refine z_istore hX dX9_widow_43 (by decide) 45 rfl ?_
      refine z_iload_n hX dX9_widow_45 rfl 46 rfl ?_
      refine z_bipush hX dX9_widow_46 qb_9 48 rfl ?_
      refine z_imul hX dX9_widow_48 49 rfl ?_
      refine z_bipush hX dX9_widow_49 qb_10 51 rfl ?_
      refine z_idiv hX dX9_widow_51 (by decide) 52 rfl ?_
      refine z_istore_n hX dX9_widow_52 (by decide) 53 rfl ?_
      refine z_iinc (v := (s.2.2 + 1)) hX dX9_widow_53 rfl (by rfl) (by decide) 56 rfl ?_
      refine z_goto hX dX9_widow_56 33 (by decide) ?_
      refine z_mask [false, false, true, true, true, true] ?_
      have hz := hrc33 _ h
      exact hz
def gX9_widow (x1 : Int32) (x2 : Int32) (M : zM) : Option Int32 :=
  zcI (gX9_isMan x1 M) (fun v1_ => (if v1_ = 0 then some (-1)
  else zcI (gX9_isCount x2 M) (fun v3_ => (if v3_ = 0 then some (-1)
  else zg (zok x1 6) (zlet ((M.1 57 (x1 : Int32).toNatClampNeg)) (fun x6_ => zfix zFu (gX9_widow_L33 x2 M) (x6_, 0, 0)))))))
set_option maxRecDepth 100000 in
set_option maxHeartbeats 2000000 in
theorem mX9_widow {G : zG} {x1 : Int32} {x2 : Int32} {M : zM}  {res : Int32} (h : gX9_widow x1 x2 M = some res) : Ct G 2 tX9_widow [.ref 0, .int x1, .int x2] M (zQip M res) := by
  unfold gX9_widow at h
  refine Ct.of (y := yX9_widow) rfl plX9 (Nat.le_of_ble_eq_true rfl) (fun X hX => ?_)
  replace hX : zC G X cX9_widow 6 RX9 (some .int) 2 := hX
  show Z G X _ 0 [some (.ref 0), some (.int x1), some (.int x2), none, none, none] [] M
  refine z_aload_n hX dX9_widow_0 rfl 1 rfl ?_
  refine z_iload_n hX dX9_widow_1 rfl 2 rfl ?_
  obtain ⟨v1_, hq, h2_⟩ := zcI_of h
  refine z_callV hX vX9_isMan lX9_129 dX9_widow_2 zs_0 rfl (mX9_isMan  hq) (by decide) rfl rfl (Nat.le_of_ble_eq_true rfl) 5 rfl (Qi.to (fun v' M' hv => ?_))
  obtain ⟨rfl, rfl⟩ := hv
  refine z_if_eq hX dX9_widow_5 15 8 (by decide) rfl (fun hc => ?_) (fun hc => ?_)
  · rw [if_pos hc] at h2_
    refine z_iconst hX dX9_widow_15 qi_m1 16 rfl ?_
    exact z_ireturn hX dX9_widow_16 (zend_ip h2_)
  · rw [if_neg hc] at h2_
    refine z_iload_n hX dX9_widow_8 rfl 9 rfl ?_
    obtain ⟨v3_, hq, h4_⟩ := zcI_of h2_
    refine z_callS hX vX9_isCount rfl lX9_279 dX9_widow_9 (mX9_isCount  hq) (by decide) rfl rfl (Nat.le_of_ble_eq_true rfl) 12 rfl (Qi.to (fun v' M' hv => ?_))
    obtain ⟨rfl, rfl⟩ := hv
    refine z_if_ne hX dX9_widow_12 17 15 (by decide) rfl (fun hc => ?_) (fun hc => ?_)
    · rw [if_neg hc] at h4_
      refine z_aload_n hX dX9_widow_17 rfl 18 rfl ?_
      refine z_getF hX fX9_41 dX9_widow_18 zs_0 (by decide) rfl 21 rfl ?_
      refine z_getF hX fX9_143 dX9_widow_21 zs_55 (by decide) rfl 24 rfl ?_
      refine z_iload_n hX dX9_widow_24 rfl 25 rfl ?_
      obtain ⟨hb, h5_⟩ := zgd h4_
      refine z_iald hX dX9_widow_25 zs_57 (zok_in hb) 26 rfl ?_
      refine z_topi h5_ (fun x6_ h7_ => ?_)
      refine z_istore_n hX dX9_widow_26 (by decide) 27 rfl ?_
      refine z_iconst hX dX9_widow_27 qi_0 28 rfl ?_
      refine z_istore hX dX9_widow_28 (by decide) 30 rfl ?_
      refine z_iconst hX dX9_widow_30 qi_0 31 rfl ?_
      refine z_istore hX dX9_widow_31 (by decide) 33 rfl ?_
      refine z_mask [false, false, true, true, true, true] ?_
      have hz := aX9_widow_L33 hX _ _ h7_
      exact hz
    · rw [if_pos hc] at h4_
      refine z_iconst hX dX9_widow_15 qi_m1 16 rfl ?_
      exact z_ireturn hX dX9_widow_16 (zend_ip h4_)
def gX4_note (x1 : Int32) (x2 : Int32) (x3 : Int32) (x4 : Int32) (M : zM) : Option (Int32 × zM) :=
  (if (M.1 89 0) < 0 then some ((-1), M)
  else (if (M.1 89 0) < 24 then zg (zok (M.1 89 0) 24) (zlet (zI M 90 ((M.1 89 0) : Int32).toNatClampNeg x1) (fun M2_ => zg (zok (M2_.1 89 0) 24) (zlet (zI M2_ 91 ((M2_.1 89 0) : Int32).toNatClampNeg x2) (fun M5_ => zg (zok (M5_.1 89 0) 24) (zlet (zI M5_ 92 ((M5_.1 89 0) : Int32).toNatClampNeg (vp_nar .boolean x3)) (fun M8_ => zg (zok (M8_.1 89 0) 24) (zlet (zI M8_ 93 ((M8_.1 89 0) : Int32).toNatClampNeg x4) (fun M11_ => zlet (zI M11_ 89 0 ((M11_.1 89 0) + 1)) (fun M13_ => some (((M13_.1 89 0) - 1), M13_))))))))))
  else some ((-1), M)))
set_option maxRecDepth 100000 in
set_option maxHeartbeats 2000000 in
theorem mX4_note {G : zG} {x1 : Int32} {x2 : Int32} {x3 : Int32} {x4 : Int32} {M : zM}  {res : (Int32 × zM)} (h : gX4_note x1 x2 x3 x4 M = some res) : Ct G 1 tX4_note [.ref 89, .int x1, .int x2, .int x3, .int x4] M (zQi res) := by
  unfold gX4_note at h
  refine Ct.of (y := yX4_note) rfl plX4 (Nat.le_of_ble_eq_true rfl) (fun X hX => ?_)
  replace hX : zC G X cX4_note 5 RX4 (some .int) 1 := hX
  show Z G X _ 0 [some (.ref 89), some (.int x1), some (.int x2), some (.int x3), some (.int x4)] [] M
  refine z_aload_n hX dX4_note_0 rfl 1 rfl ?_
  refine z_getI hX fX4_32 dX4_note_1 zs_89 (by decide) rfl 4 rfl ?_
  refine z_if_lt hX dX4_note_4 16 7 (by decide) rfl (fun hc => ?_) (fun hc => ?_)
  · rw [if_pos hc] at h
    refine z_iconst hX dX4_note_16 qi_m1 17 rfl ?_
    exact z_ireturn hX dX4_note_17 (zend_i h)
  · rw [if_neg hc] at h
    refine z_aload_n hX dX4_note_7 rfl 8 rfl ?_
    refine z_getI hX fX4_32 dX4_note_8 zs_89 (by decide) rfl 11 rfl ?_
    refine z_bipush hX dX4_note_11 qb_24 13 rfl ?_
    refine z_icmp_lt hX dX4_note_13 18 16 (by decide) rfl (fun hc => ?_) (fun hc => ?_)
    · rw [if_pos hc] at h
      refine z_aload_n hX dX4_note_18 rfl 19 rfl ?_
      refine z_getF hX fX4_15 dX4_note_19 zs_89 (by decide) rfl 22 rfl ?_
      refine z_aload_n hX dX4_note_22 rfl 23 rfl ?_
      refine z_getI hX fX4_32 dX4_note_23 zs_89 (by decide) rfl 26 rfl ?_
      refine z_iload_n hX dX4_note_26 rfl 27 rfl ?_
      obtain ⟨hb, h1_⟩ := zgd h
      refine z_iast hX dX4_note_27 zs_90 (zok_in hb) 28 rfl ?_
      refine z_mem h1_ (fun M2_ h3_ => ?_)
      refine z_aload_n hX dX4_note_28 rfl 29 rfl ?_
      refine z_getF hX fX4_19 dX4_note_29 zs_89 (by decide) rfl 32 rfl ?_
      refine z_aload_n hX dX4_note_32 rfl 33 rfl ?_
      refine z_getI hX fX4_32 dX4_note_33 zs_89 (by decide) rfl 36 rfl ?_
      refine z_iload_n hX dX4_note_36 rfl 37 rfl ?_
      obtain ⟨hb, h4_⟩ := zgd h3_
      refine z_iast hX dX4_note_37 zs_91 (zok_in hb) 38 rfl ?_
      refine z_mem h4_ (fun M5_ h6_ => ?_)
      refine z_aload_n hX dX4_note_38 rfl 39 rfl ?_
      refine z_getF hX fX4_22 dX4_note_39 zs_89 (by decide) rfl 42 rfl ?_
      refine z_aload_n hX dX4_note_42 rfl 43 rfl ?_
      refine z_getI hX fX4_32 dX4_note_43 zs_89 (by decide) rfl 46 rfl ?_
      refine z_iload_n hX dX4_note_46 rfl 47 rfl ?_
      obtain ⟨hb, h7_⟩ := zgd h6_
      refine z_zast hX dX4_note_47 zs_92 (zok_in hb) 48 rfl ?_
      refine z_mem h7_ (fun M8_ h9_ => ?_)
      refine z_aload_n hX dX4_note_48 rfl 49 rfl ?_
      refine z_getF hX fX4_26 dX4_note_49 zs_89 (by decide) rfl 52 rfl ?_
      refine z_aload_n hX dX4_note_52 rfl 53 rfl ?_
      refine z_getI hX fX4_32 dX4_note_53 zs_89 (by decide) rfl 56 rfl ?_
      refine z_iload hX dX4_note_56 rfl 58 rfl ?_
      obtain ⟨hb, h10_⟩ := zgd h9_
      refine z_iast hX dX4_note_58 zs_93 (zok_in hb) 59 rfl ?_
      refine z_mem h10_ (fun M11_ h12_ => ?_)
      refine z_aload_n hX dX4_note_59 rfl 60 rfl ?_
      refine z_dup hX dX4_note_60 rfl 61 rfl ?_
      refine z_getI hX fX4_32 dX4_note_61 zs_89 (by decide) rfl 64 rfl ?_
      refine z_iconst hX dX4_note_64 qi_1 65 rfl ?_
      refine z_iadd hX dX4_note_65 66 rfl ?_
      refine z_putI hX pX4_32 dX4_note_66 zs_89 (by decide) rfl 69 rfl ?_
      refine z_mem h12_ (fun M13_ h14_ => ?_)
      refine z_aload_n hX dX4_note_69 rfl 70 rfl ?_
      refine z_getI hX fX4_32 dX4_note_70 zs_89 (by decide) rfl 73 rfl ?_
      refine z_iconst hX dX4_note_73 qi_1 74 rfl ?_
      refine z_isub hX dX4_note_74 75 rfl ?_
      exact z_ireturn hX dX4_note_75 (zend_i h14_)
    · rw [if_neg hc] at h
      refine z_iconst hX dX4_note_16 qi_m1 17 rfl ?_
      exact z_ireturn hX dX4_note_17 (zend_i h)
def gX9_see (x1 : Int32) (x2 : Int32) (x3 : Int32) (M : zM) : Option (Int32 × zM) :=
  (if x1 < 1 then some ((-1), M)
  else (if 60 < x1 then some ((-1), M)
  else zcI (gX9_isThing x2 M) (fun v1_ => (if v1_ = 0 then some ((-1), M)
  else zcIM (gX4_note x1 x2 x3 (-1) M) (fun v3_ M4_ => some (v3_, M4_))))))
set_option maxRecDepth 100000 in
set_option maxHeartbeats 2000000 in
theorem mX9_see {G : zG} {x1 : Int32} {x2 : Int32} {x3 : Int32} {M : zM}  {res : (Int32 × zM)} (h : gX9_see x1 x2 x3 M = some res) : Ct G 2 tX9_see [.ref 0, .int x1, .int x2, .int x3] M (zQi res) := by
  unfold gX9_see at h
  refine Ct.of (y := yX9_see) rfl plX9 (Nat.le_of_ble_eq_true rfl) (fun X hX => ?_)
  replace hX : zC G X cX9_see 4 RX9 (some .int) 2 := hX
  show Z G X _ 0 [some (.ref 0), some (.int x1), some (.int x2), some (.int x3)] [] M
  refine z_iload_n hX dX9_see_0 rfl 1 rfl ?_
  refine z_iconst hX dX9_see_1 qi_1 2 rfl ?_
  refine z_icmp_lt hX dX9_see_2 19 5 (by decide) rfl (fun hc => ?_) (fun hc => ?_)
  · rw [if_pos hc] at h
    refine z_iconst hX dX9_see_19 qi_m1 20 rfl ?_
    exact z_ireturn hX dX9_see_20 (zend_i h)
  · rw [if_neg hc] at h
    refine z_iload_n hX dX9_see_5 rfl 6 rfl ?_
    refine z_bipush hX dX9_see_6 qb_60 8 rfl ?_
    refine z_icmp_gt hX dX9_see_8 19 11 (by decide) rfl (fun hc => ?_) (fun hc => ?_)
    · rw [if_pos hc] at h
      refine z_iconst hX dX9_see_19 qi_m1 20 rfl ?_
      exact z_ireturn hX dX9_see_20 (zend_i h)
    · rw [if_neg hc] at h
      refine z_aload_n hX dX9_see_11 rfl 12 rfl ?_
      refine z_iload_n hX dX9_see_12 rfl 13 rfl ?_
      obtain ⟨v1_, hq, h2_⟩ := zcI_of h
      refine z_callV hX vX9_isThing lX9_174 dX9_see_13 zs_0 rfl (mX9_isThing  hq) (by decide) rfl rfl (Nat.le_of_ble_eq_true rfl) 16 rfl (Qi.to (fun v' M' hv => ?_))
      obtain ⟨rfl, rfl⟩ := hv
      refine z_if_ne hX dX9_see_16 21 19 (by decide) rfl (fun hc => ?_) (fun hc => ?_)
      · rw [if_neg hc] at h2_
        refine z_aload_n hX dX9_see_21 rfl 22 rfl ?_
        refine z_getF hX fX9_61 dX9_see_22 zs_0 (by decide) rfl 25 rfl ?_
        refine z_iload_n hX dX9_see_25 rfl 26 rfl ?_
        refine z_iload_n hX dX9_see_26 rfl 27 rfl ?_
        refine z_iload_n hX dX9_see_27 rfl 28 rfl ?_
        refine z_iconst hX dX9_see_28 qi_m1 29 rfl ?_
        obtain ⟨v3_, M4_, hq, h5_⟩ := zcIM_of h2_
        refine z_callV hX vX4_note lX9_345 dX9_see_29 zs_89 rfl (mX4_note  hq) (by decide) rfl rfl (Nat.le_of_ble_eq_true rfl) 32 rfl (Qi.to (fun v' M' hv => ?_))
        cases hv
        exact z_ireturn hX dX9_see_32 (zend_i h5_)
      · rw [if_pos hc] at h2_
        refine z_iconst hX dX9_see_19 qi_m1 20 rfl ?_
        exact z_ireturn hX dX9_see_20 (zend_i h2_)
def gX9_strike (x1 : Int32) (M : zM) : Option (Int32 × zM) :=
  (if x1 < 0 then some ((-1), M)
  else (if x1 < (M.1 89 0) then zcIM (gX4_note 0 0 0 x1 M) (fun v1_ M2_ => some (v1_, M2_))
  else some ((-1), M)))
set_option maxRecDepth 100000 in
set_option maxHeartbeats 2000000 in
theorem mX9_strike {G : zG} {x1 : Int32} {M : zM}  {res : (Int32 × zM)} (h : gX9_strike x1 M = some res) : Ct G 2 tX9_strike [.ref 0, .int x1] M (zQi res) := by
  unfold gX9_strike at h
  refine Ct.of (y := yX9_strike) rfl plX9 (Nat.le_of_ble_eq_true rfl) (fun X hX => ?_)
  replace hX : zC G X cX9_strike 2 RX9 (some .int) 2 := hX
  show Z G X _ 0 [some (.ref 0), some (.int x1)] [] M
  refine z_iload_n hX dX9_strike_0 rfl 1 rfl ?_
  refine z_if_lt hX dX9_strike_1 15 4 (by decide) rfl (fun hc => ?_) (fun hc => ?_)
  · rw [if_pos hc] at h
    refine z_iconst hX dX9_strike_15 qi_m1 16 rfl ?_
    exact z_ireturn hX dX9_strike_16 (zend_i h)
  · rw [if_neg hc] at h
    refine z_iload_n hX dX9_strike_4 rfl 5 rfl ?_
    refine z_aload_n hX dX9_strike_5 rfl 6 rfl ?_
    refine z_getF hX fX9_61 dX9_strike_6 zs_0 (by decide) rfl 9 rfl ?_
    refine z_getI hX fX9_236 dX9_strike_9 zs_89 (by decide) rfl 12 rfl ?_
    refine z_icmp_lt hX dX9_strike_12 17 15 (by decide) rfl (fun hc => ?_) (fun hc => ?_)
    · rw [if_pos hc] at h
      refine z_aload_n hX dX9_strike_17 rfl 18 rfl ?_
      refine z_getF hX fX9_61 dX9_strike_18 zs_0 (by decide) rfl 21 rfl ?_
      refine z_iconst hX dX9_strike_21 qi_0 22 rfl ?_
      refine z_iconst hX dX9_strike_22 qi_0 23 rfl ?_
      refine z_iconst hX dX9_strike_23 qi_0 24 rfl ?_
      refine z_iload_n hX dX9_strike_24 rfl 25 rfl ?_
      obtain ⟨v1_, M2_, hq, h3_⟩ := zcIM_of h
      refine z_callV hX vX4_note lX9_345 dX9_strike_25 zs_89 rfl (mX4_note  hq) (by decide) rfl rfl (Nat.le_of_ble_eq_true rfl) 28 rfl (Qi.to (fun v' M' hv => ?_))
      cases hv
      exact z_ireturn hX dX9_strike_28 (zend_i h3_)
    · rw [if_neg hc] at h
      refine z_iconst hX dX9_strike_15 qi_m1 16 rfl ?_
      exact z_ireturn hX dX9_strike_16 (zend_i h)
def gX9_known (x1 : Int32) (M : zM) : Option (Int32 × zM) :=
  (if x1 < (-1) then some (0, M)
  else (if x1 ≤ (M.1 89 0) then zlet (zI M 89 1 x1) (fun M1_ => some (1, M1_))
  else some (0, M)))
set_option maxRecDepth 100000 in
set_option maxHeartbeats 2000000 in
theorem mX9_known {G : zG} {x1 : Int32} {M : zM}  {res : (Int32 × zM)} (h : gX9_known x1 M = some res) : Ct G 1 tX9_known [.ref 0, .int x1] M (zQi res) := by
  unfold gX9_known at h
  refine Ct.of (y := yX9_known) rfl plX9 (Nat.le_of_ble_eq_true rfl) (fun X hX => ?_)
  replace hX : zC G X cX9_known 2 RX9 (some .boolean) 1 := hX
  show Z G X _ 0 [some (.ref 0), some (.int x1)] [] M
  refine z_iload_n hX dX9_known_0 rfl 1 rfl ?_
  refine z_iconst hX dX9_known_1 qi_m1 2 rfl ?_
  refine z_icmp_lt hX dX9_known_2 16 5 (by decide) rfl (fun hc => ?_) (fun hc => ?_)
  · rw [if_pos hc] at h
    refine z_iconst hX dX9_known_16 qi_0 17 rfl ?_
    exact z_zreturn hX dX9_known_17 (by decide) (zend_i h)
  · rw [if_neg hc] at h
    refine z_iload_n hX dX9_known_5 rfl 6 rfl ?_
    refine z_aload_n hX dX9_known_6 rfl 7 rfl ?_
    refine z_getF hX fX9_61 dX9_known_7 zs_0 (by decide) rfl 10 rfl ?_
    refine z_getI hX fX9_236 dX9_known_10 zs_89 (by decide) rfl 13 rfl ?_
    refine z_icmp_le hX dX9_known_13 18 16 (by decide) rfl (fun hc => ?_) (fun hc => ?_)
    · rw [if_pos hc] at h
      refine z_aload_n hX dX9_known_18 rfl 19 rfl ?_
      refine z_getF hX fX9_61 dX9_known_19 zs_0 (by decide) rfl 22 rfl ?_
      refine z_iload_n hX dX9_known_22 rfl 23 rfl ?_
      refine z_putI hX pX9_348 dX9_known_23 zs_89 (by decide) rfl 26 rfl ?_
      refine z_mem h (fun M1_ h2_ => ?_)
      refine z_iconst hX dX9_known_26 qi_1 27 rfl ?_
      exact z_zreturn hX dX9_known_27 (by decide) (zend_i h2_)
    · rw [if_neg hc] at h
      refine z_iconst hX dX9_known_16 qi_0 17 rfl ?_
      exact z_zreturn hX dX9_known_17 (by decide) (zend_i h)
def gX4_markKnown_J94 (x2 : Int32) (x3 : Int32) (rc46 : (Int32 × Int32 × zM) → Option (Int32 × zM)) (M : zM) : Option (Int32 × zM) :=
  zg (zok x3 24) ((if (M.1 94 (x3 : Int32).toNatClampNeg) = 0 then rc46 (x2, (x3 + (-1)), M)
  else zg (zok x3 24) (zlet ((if x2 < (M.1 90 (x3 : Int32).toNatClampNeg) then (M.1 90 (x3 : Int32).toNatClampNeg) else x2)) (fun x8_ => rc46 (x8_, (x3 + (-1)), M)))))
set_option maxRecDepth 100000 in
set_option maxHeartbeats 2000000 in
theorem aX4_markKnown_J94 {G : zG} {X : zX} {x2 : Int32} {x3 : Int32} (hX : zC G X cX4_markKnown 4 RX4 (some .int) 2)  {rc46 : (Int32 × Int32 × zM) → Option (Int32 × zM)} {M : zM} {res : (Int32 × zM)} (hrc46 : ∀ s : (Int32 × Int32 × zM), rc46 s = some res → Z G X (zQi res) 46 [some (.ref 89), none, some (.int s.1), some (.int s.2.1)] [] s.2.2) (h : gX4_markKnown_J94 x2 x3 rc46 M = some res) : Z G X (zQi res) 94 [some (.ref 89), none, some (.int x2), some (.int x3)] [] M := by
  unfold gX4_markKnown_J94 at h
  refine z_aload_n hX dX4_markKnown_94 rfl 95 rfl ?_
  refine z_getF hX fX4_29 dX4_markKnown_95 zs_89 (by decide) rfl 98 rfl ?_
  refine z_iload_n hX dX4_markKnown_98 rfl 99 rfl ?_
  obtain ⟨hb, h6_⟩ := zgd h
  refine z_zald hX dX4_markKnown_99 zs_94 (zok_in hb) 100 rfl ?_
  refine z_if_eq hX dX4_markKnown_100 114 103 (by decide) rfl (fun hc => ?_) (fun hc => ?_)
  · rw [if_pos hc] at h6_
    refine z_iinc (v := (x3 + (-1))) hX dX4_markKnown_114 rfl (by rfl) (by decide) 117 rfl ?_
    refine z_goto hX dX4_markKnown_117 46 (by decide) ?_
    refine z_mask [true, false, true, true] ?_
    have hz := hrc46 _ h6_
    exact hz
  · rw [if_neg hc] at h6_
    refine z_iload_n hX dX4_markKnown_103 rfl 104 rfl ?_
    refine z_aload_n hX dX4_markKnown_104 rfl 105 rfl ?_
    refine z_getF hX fX4_15 dX4_markKnown_105 zs_89 (by decide) rfl 108 rfl ?_
    refine z_iload_n hX dX4_markKnown_108 rfl 109 rfl ?_
    obtain ⟨hb, h7_⟩ := zgd h6_
    refine z_iald hX dX4_markKnown_109 zs_90 (zok_in hb) 110 rfl ?_
    refine z_max hX dX4_markKnown_110 lX4_45 (by decide) (Nat.le_of_ble_eq_true rfl) 113 rfl ?_
    refine z_topi h7_ (fun x8_ h9_ => ?_)
    refine z_istore_n hX dX4_markKnown_113 (by decide) 114 rfl ?_
    refine z_iinc (v := (x3 + (-1))) hX dX4_markKnown_114 rfl (by rfl) (by decide) 117 rfl ?_
    refine z_goto hX dX4_markKnown_117 46 (by decide) ?_
    refine z_mask [true, false, true, true] ?_
    have hz := hrc46 _ h9_
    exact hz
def gX4_markKnown_L46  (rc46 : (Int32 × Int32 × zM) → Option (Int32 × zM)) (s : (Int32 × Int32 × zM)) : Option (Int32 × zM) :=
  (if s.2.1 < 0 then some ((if 60 < s.1 then 60 else s.1), s.2.2)
  else zg (zok s.2.1 24) ((if (s.2.2.1 94 (s.2.1 : Int32).toNatClampNeg) = 0 then gX4_markKnown_J94 s.1 s.2.1 rc46 s.2.2
  else zg (zok s.2.1 24) ((if (s.2.2.1 93 (s.2.1 : Int32).toNatClampNeg) < 0 then gX4_markKnown_J94 s.1 s.2.1 rc46 s.2.2
  else zg (zok s.2.1 24) ((if 24 ≤ (s.2.2.1 93 (s.2.1 : Int32).toNatClampNeg) then gX4_markKnown_J94 s.1 s.2.1 rc46 s.2.2
  else zg (zok s.2.1 24) (zg (zok (s.2.2.1 93 (s.2.1 : Int32).toNatClampNeg) 24) (zlet (zI s.2.2 94 ((s.2.2.1 93 (s.2.1 : Int32).toNatClampNeg) : Int32).toNatClampNeg (vp_nar .boolean 0)) (fun M14_ => rc46 (s.1, (s.2.1 + (-1)), M14_)))))))))))
set_option maxRecDepth 100000 in
set_option maxHeartbeats 2000000 in
theorem aX4_markKnown_L46 {G : zG} {X : zX} (hX : zC G X cX4_markKnown 4 RX4 (some .int) 2)    {res : (Int32 × zM)}  : ∀ (N : Nat) (s : (Int32 × Int32 × zM)), zfix N (gX4_markKnown_L46 ) s = some res → Z G X (zQi res) 46 [some (.ref 89), none, some (.int s.1), some (.int s.2.1)] [] s.2.2 := by
  intro N
  induction N with
  | zero => intro s h; cases h
  | succ N hrc46 =>
    intro s h
    replace h : gX4_markKnown_L46  (zfix N (gX4_markKnown_L46 )) s = some res := h
    unfold gX4_markKnown_L46 at h
    refine z_iload_n hX dX4_markKnown_46 rfl 47 rfl ?_
    refine z_if_lt hX dX4_markKnown_47 120 50 (by decide) rfl (fun hc => ?_) (fun hc => ?_)
    · rw [if_pos hc] at h
      refine z_iload_n hX dX4_markKnown_120 rfl 121 rfl ?_
      refine z_bipush hX dX4_markKnown_121 qb_60 123 rfl ?_
      refine z_min hX dX4_markKnown_123 lX4_39 (by decide) (Nat.le_of_ble_eq_true rfl) 126 rfl ?_
      exact z_ireturn hX dX4_markKnown_126 (zend_i h)
    · rw [if_neg hc] at h
      refine z_aload_n hX dX4_markKnown_50 rfl 51 rfl ?_
      refine z_getF hX fX4_29 dX4_markKnown_51 zs_89 (by decide) rfl 54 rfl ?_
      refine z_iload_n hX dX4_markKnown_54 rfl 55 rfl ?_
      obtain ⟨hb, h5_⟩ := zgd h
      refine z_zald hX dX4_markKnown_55 zs_94 (zok_in hb) 56 rfl ?_
      refine z_if_eq hX dX4_markKnown_56 94 59 (by decide) rfl (fun hc => ?_) (fun hc => ?_)
      · rw [if_pos hc] at h5_
        refine z_mask [true, false, true, true] ?_
        have hz := aX4_markKnown_J94 hX hrc46 h5_
        exact hz
      · rw [if_neg hc] at h5_
        refine z_aload_n hX dX4_markKnown_59 rfl 60 rfl ?_
        refine z_getF hX fX4_26 dX4_markKnown_60 zs_89 (by decide) rfl 63 rfl ?_
        refine z_iload_n hX dX4_markKnown_63 rfl 64 rfl ?_
        obtain ⟨hb, h10_⟩ := zgd h5_
        refine z_iald hX dX4_markKnown_64 zs_93 (zok_in hb) 65 rfl ?_
        refine z_if_lt hX dX4_markKnown_65 94 68 (by decide) rfl (fun hc => ?_) (fun hc => ?_)
        · rw [if_pos hc] at h10_
          refine z_mask [true, false, true, true] ?_
          have hz := aX4_markKnown_J94 hX hrc46 h10_
          exact hz
        · rw [if_neg hc] at h10_
          refine z_aload_n hX dX4_markKnown_68 rfl 69 rfl ?_
          refine z_getF hX fX4_26 dX4_markKnown_69 zs_89 (by decide) rfl 72 rfl ?_
          refine z_iload_n hX dX4_markKnown_72 rfl 73 rfl ?_
          obtain ⟨hb, h11_⟩ := zgd h10_
          refine z_iald hX dX4_markKnown_73 zs_93 (zok_in hb) 74 rfl ?_
          refine z_bipush hX dX4_markKnown_74 qb_24 76 rfl ?_
          refine z_icmp_ge hX dX4_markKnown_76 94 79 (by decide) rfl (fun hc => ?_) (fun hc => ?_)
          · rw [if_pos hc] at h11_
            refine z_mask [true, false, true, true] ?_
            have hz := aX4_markKnown_J94 hX hrc46 h11_
            exact hz
          · rw [if_neg hc] at h11_
            refine z_aload_n hX dX4_markKnown_79 rfl 80 rfl ?_
            refine z_getF hX fX4_29 dX4_markKnown_80 zs_89 (by decide) rfl 83 rfl ?_
            refine z_aload_n hX dX4_markKnown_83 rfl 84 rfl ?_
            refine z_getF hX fX4_26 dX4_markKnown_84 zs_89 (by decide) rfl 87 rfl ?_
            refine z_iload_n hX dX4_markKnown_87 rfl 88 rfl ?_
            obtain ⟨hb, h12_⟩ := zgd h11_
            refine z_iald hX dX4_markKnown_88 zs_93 (zok_in hb) 89 rfl ?_
            refine z_iconst hX dX4_markKnown_89 qi_0 90 rfl ?_
            obtain ⟨hb, h13_⟩ := zgd h12_
            refine z_zast hX dX4_markKnown_90 zs_94 (zok_in hb) 91 rfl ?_
            refine z_mem h13_ (fun M14_ h15_ => ?_)
            refine z_goto hX dX4_markKnown_91 114 (by decide) ?_
            refine z_iinc (v := (s.2.1 + (-1))) hX dX4_markKnown_114 rfl (by rfl) (by decide) 117 rfl ?_
            refine z_goto hX dX4_markKnown_117 46 (by decide) ?_
            refine z_mask [true, false, true, true] ?_
            have hz := hrc46 _ h15_
            exact hz
def gX4_markKnown_L12 (x1 : Int32) (rc12 : (Int32 × zM) → Option (Int32 × zM)) (s : (Int32 × zM)) : Option (Int32 × zM) :=
  (if 24 ≤ s.1 then zfix zFu (gX4_markKnown_L46 ) (0, (x1 - 1), s.2)
  else (if x1 ≤ s.1 then zg (zok s.1 24) (zlet (zI s.2 94 (s.1 : Int32).toNatClampNeg (vp_nar .boolean 0)) (fun M17_ => rc12 ((s.1 + 1), M17_)))
  else zg (zok s.1 24) (zlet (zI s.2 94 (s.1 : Int32).toNatClampNeg (vp_nar .boolean 1)) (fun M20_ => rc12 ((s.1 + 1), M20_)))))
set_option maxRecDepth 100000 in
set_option maxHeartbeats 2000000 in
theorem aX4_markKnown_L12 {G : zG} {X : zX} {x1 : Int32} (hX : zC G X cX4_markKnown 4 RX4 (some .int) 2)    {res : (Int32 × zM)}  : ∀ (N : Nat) (s : (Int32 × zM)), zfix N (gX4_markKnown_L12 x1) s = some res → Z G X (zQi res) 12 [some (.ref 89), some (.int x1), some (.int s.1), none] [] s.2 := by
  intro N
  induction N with
  | zero => intro s h; cases h
  | succ N hrc12 =>
    intro s h
    replace h : gX4_markKnown_L12 x1 (zfix N (gX4_markKnown_L12 x1)) s = some res := h
    unfold gX4_markKnown_L12 at h
    refine z_iload_n hX dX4_markKnown_12 rfl 13 rfl ?_
    refine z_bipush hX dX4_markKnown_13 qb_24 15 rfl ?_
    refine z_icmp_ge hX dX4_markKnown_15 40 18 (by decide) rfl (fun hc => ?_) (fun hc => ?_)
    · rw [if_pos hc] at h
      refine z_iconst hX dX4_markKnown_40 qi_0 41 rfl ?_
      refine z_istore_n hX dX4_markKnown_41 (by decide) 42 rfl ?_
      refine z_iload_n hX dX4_markKnown_42 rfl 43 rfl ?_
      refine z_iconst hX dX4_markKnown_43 qi_1 44 rfl ?_
      refine z_isub hX dX4_markKnown_44 45 rfl ?_
      refine z_istore_n hX dX4_markKnown_45 (by decide) 46 rfl ?_
      refine z_mask [true, false, true, true] ?_
      have hz := aX4_markKnown_L46 hX _ _ h
      exact hz
    · rw [if_neg hc] at h
      refine z_aload_n hX dX4_markKnown_18 rfl 19 rfl ?_
      refine z_getF hX fX4_29 dX4_markKnown_19 zs_89 (by decide) rfl 22 rfl ?_
      refine z_iload_n hX dX4_markKnown_22 rfl 23 rfl ?_
      refine z_iload_n hX dX4_markKnown_23 rfl 24 rfl ?_
      refine z_iload_n hX dX4_markKnown_24 rfl 25 rfl ?_
      refine z_icmp_ge hX dX4_markKnown_25 32 28 (by decide) rfl (fun hc => ?_) (fun hc => ?_)
      · rw [if_pos hc] at h
        refine z_iconst hX dX4_markKnown_32 qi_0 33 rfl ?_
        obtain ⟨hb, h16_⟩ := zgd h
        refine z_zast hX dX4_markKnown_33 zs_94 (zok_in hb) 34 rfl ?_
        refine z_mem h16_ (fun M17_ h18_ => ?_)
        refine z_iinc (v := (s.1 + 1)) hX dX4_markKnown_34 rfl (by rfl) (by decide) 37 rfl ?_
        refine z_goto hX dX4_markKnown_37 12 (by decide) ?_
        refine z_mask [true, true, true, false] ?_
        have hz := hrc12 _ h18_
        exact hz
      · rw [if_neg hc] at h
        refine z_iconst hX dX4_markKnown_28 qi_1 29 rfl ?_
        refine z_goto hX dX4_markKnown_29 33 (by decide) ?_
        obtain ⟨hb, h19_⟩ := zgd h
        refine z_zast hX dX4_markKnown_33 zs_94 (zok_in hb) 34 rfl ?_
        refine z_mem h19_ (fun M20_ h21_ => ?_)
        refine z_iinc (v := (s.1 + 1)) hX dX4_markKnown_34 rfl (by rfl) (by decide) 37 rfl ?_
        refine z_goto hX dX4_markKnown_37 12 (by decide) ?_
        refine z_mask [true, true, true, false] ?_
        have hz := hrc12 _ h21_
        exact hz
def gX4_markKnown (M : zM) : Option (Int32 × zM) :=
  zcI (gX4_knownSize M) (fun v1_ => zlet ((if 24 < v1_ then 24 else v1_)) (fun x3_ => zfix zFu (gX4_markKnown_L12 x3_) (0, M)))
set_option maxRecDepth 100000 in
set_option maxHeartbeats 2000000 in
theorem mX4_markKnown {G : zG}  {M : zM}  {res : (Int32 × zM)} (h : gX4_markKnown M = some res) : Ct G 2 tX4_markKnown [.ref 89] M (zQi res) := by
  unfold gX4_markKnown at h
  refine Ct.of (y := yX4_markKnown) rfl plX4 (Nat.le_of_ble_eq_true rfl) (fun X hX => ?_)
  replace hX : zC G X cX4_markKnown 4 RX4 (some .int) 2 := hX
  show Z G X _ 0 [some (.ref 89), none, none, none] [] M
  refine z_aload_n hX dX4_markKnown_0 rfl 1 rfl ?_
  obtain ⟨v1_, hq, h2_⟩ := zcI_of h
  refine z_callV hX vX4_knownSize lX4_35 dX4_markKnown_1 zs_89 rfl (mX4_knownSize  hq) (by decide) rfl rfl (Nat.le_of_ble_eq_true rfl) 4 rfl (Qi.to (fun v' M' hv => ?_))
  obtain ⟨rfl, rfl⟩ := hv
  refine z_bipush hX dX4_markKnown_4 qb_24 6 rfl ?_
  refine z_min hX dX4_markKnown_6 lX4_39 (by decide) (Nat.le_of_ble_eq_true rfl) 9 rfl ?_
  refine z_topi h2_ (fun x3_ h4_ => ?_)
  refine z_istore_n hX dX4_markKnown_9 (by decide) 10 rfl ?_
  refine z_iconst hX dX4_markKnown_10 qi_0 11 rfl ?_
  refine z_istore_n hX dX4_markKnown_11 (by decide) 12 rfl ?_
  refine z_mask [true, true, true, false] ?_
  have hz := aX4_markKnown_L12 hX _ _ h4_
  exact hz
def gX4_fits_J72 (a2 : Nat) (n2 : Nat) (x1 : Int32) (x3 : Int32) (y0 : Int32) (rc2 : Int32 → Option Int32) (M : zM) : Option Int32 :=
  zg (zok x3 24) ((if y0 = (M.1 92 (x3 : Int32).toNatClampNeg) then rc2 (x3 + 1)
  else some 0))
set_option maxRecDepth 100000 in
set_option maxHeartbeats 2000000 in
theorem aX4_fits_J72 {G : zG} {X : zX} {a2 : Nat} {n2 : Nat} {x1 : Int32} {x3 : Int32} {y0 : Int32} (hX : zC G X cX4_fits 4 RX4 (some .boolean) 1) (ha2 : zs a2 = .inr (0, n2)) (hn2 : 0 < n2) {rc2 : Int32 → Option Int32} {M : zM} {res : Int32} (hrc2 : ∀ s : Int32, rc2 s = some res → Z G X (zQip M res) 2 [some (.ref 89), some (.int x1), some (.ref a2), some (.int s)] [] M) (h : gX4_fits_J72 a2 n2 x1 x3 y0 rc2 M = some res) : Z G X (zQip M res) 72 [some (.ref 89), some (.int x1), some (.ref a2), some (.int x3)] [.int y0] M := by
  unfold gX4_fits_J72 at h
  refine z_aload_n hX dX4_fits_72 rfl 73 rfl ?_
  refine z_getF hX fX4_22 dX4_fits_73 zs_89 (by decide) rfl 76 rfl ?_
  refine z_iload_n hX dX4_fits_76 rfl 77 rfl ?_
  obtain ⟨hb, h7_⟩ := zgd h
  refine z_zald hX dX4_fits_77 zs_92 (zok_in hb) 78 rfl ?_
  refine z_icmp_eq hX dX4_fits_78 83 81 (by decide) rfl (fun hc => ?_) (fun hc => ?_)
  · rw [if_pos hc] at h7_
    refine z_iinc (v := (x3 + 1)) hX dX4_fits_83 rfl (by rfl) (by decide) 86 rfl ?_
    refine z_goto hX dX4_fits_86 2 (by decide) ?_
    refine z_mask [true, true, true, true] ?_
    have hz := hrc2 _ h7_
    exact hz
  · rw [if_neg hc] at h7_
    refine z_iconst hX dX4_fits_81 qi_0 82 rfl ?_
    exact z_zreturn hX dX4_fits_82 (by decide) (zend_ip h7_)
def gX4_fits_L2 (a2 : Nat) (n2 : Nat) (x1 : Int32) (M : zM) (rc2 : Int32 → Option Int32) (s : Int32) : Option Int32 :=
  (if (M.1 89 0) ≤ s then some 1
  else (if 24 ≤ s then some 1
  else zg (zok s 24) ((if (M.1 94 (s : Int32).toNatClampNeg) = 0 then rc2 (s + 1)
  else zg (zok s 24) ((if (M.1 90 (s : Int32).toNatClampNeg) = x1 then zg (zok s 24) ((if (M.1 91 (s : Int32).toNatClampNeg) < 0 then rc2 (s + 1)
  else zg (zok s 24) ((if (Int32.ofNat n2) ≤ (M.1 91 (s : Int32).toNatClampNeg) then rc2 (s + 1)
  else zg (zok s 24) (zg (zok (M.1 91 (s : Int32).toNatClampNeg) n2) ((if (M.1 a2 ((M.1 91 (s : Int32).toNatClampNeg) : Int32).toNatClampNeg) = 2 then gX4_fits_J72 a2 n2 x1 s 1 rc2 M
  else gX4_fits_J72 a2 n2 x1 s 0 rc2 M)))))))
  else rc2 (s + 1)))))))
set_option maxRecDepth 100000 in
set_option maxHeartbeats 2000000 in
theorem aX4_fits_L2 {G : zG} {X : zX} {a2 : Nat} {n2 : Nat} {x1 : Int32} (hX : zC G X cX4_fits 4 RX4 (some .boolean) 1) (ha2 : zs a2 = .inr (0, n2)) (hn2 : 0 < n2)  {M : zM} {res : Int32}  : ∀ (N : Nat) (s : Int32), zfix N (gX4_fits_L2 a2 n2 x1 M) s = some res → Z G X (zQip M res) 2 [some (.ref 89), some (.int x1), some (.ref a2), some (.int s)] [] M := by
  intro N
  induction N with
  | zero => intro s h; cases h
  | succ N hrc2 =>
    intro s h
    replace h : gX4_fits_L2 a2 n2 x1 M (zfix N (gX4_fits_L2 a2 n2 x1 M)) s = some res := h
    unfold gX4_fits_L2 at h
    refine z_iload_n hX dX4_fits_2 rfl 3 rfl ?_
    refine z_aload_n hX dX4_fits_3 rfl 4 rfl ?_
    refine z_getI hX fX4_32 dX4_fits_4 zs_89 (by decide) rfl 7 rfl ?_
    refine z_icmp_ge hX dX4_fits_7 89 10 (by decide) rfl (fun hc => ?_) (fun hc => ?_)
    · rw [if_pos hc] at h
      refine z_iconst hX dX4_fits_89 qi_1 90 rfl ?_
      exact z_zreturn hX dX4_fits_90 (by decide) (zend_ip h)
    · rw [if_neg hc] at h
      refine z_iload_n hX dX4_fits_10 rfl 11 rfl ?_
      refine z_bipush hX dX4_fits_11 qb_24 13 rfl ?_
      refine z_icmp_ge hX dX4_fits_13 89 16 (by decide) rfl (fun hc => ?_) (fun hc => ?_)
      · rw [if_pos hc] at h
        refine z_iconst hX dX4_fits_89 qi_1 90 rfl ?_
        exact z_zreturn hX dX4_fits_90 (by decide) (zend_ip h)
      · rw [if_neg hc] at h
        refine z_aload_n hX dX4_fits_16 rfl 17 rfl ?_
        refine z_getF hX fX4_29 dX4_fits_17 zs_89 (by decide) rfl 20 rfl ?_
        refine z_iload_n hX dX4_fits_20 rfl 21 rfl ?_
        obtain ⟨hb, h1_⟩ := zgd h
        refine z_zald hX dX4_fits_21 zs_94 (zok_in hb) 22 rfl ?_
        refine z_if_eq hX dX4_fits_22 83 25 (by decide) rfl (fun hc => ?_) (fun hc => ?_)
        · rw [if_pos hc] at h1_
          refine z_iinc (v := (s + 1)) hX dX4_fits_83 rfl (by rfl) (by decide) 86 rfl ?_
          refine z_goto hX dX4_fits_86 2 (by decide) ?_
          refine z_mask [true, true, true, true] ?_
          have hz := hrc2 _ h1_
          exact hz
        · rw [if_neg hc] at h1_
          refine z_aload_n hX dX4_fits_25 rfl 26 rfl ?_
          refine z_getF hX fX4_15 dX4_fits_26 zs_89 (by decide) rfl 29 rfl ?_
          refine z_iload_n hX dX4_fits_29 rfl 30 rfl ?_
          obtain ⟨hb, h2_⟩ := zgd h1_
          refine z_iald hX dX4_fits_30 zs_90 (zok_in hb) 31 rfl ?_
          refine z_iload_n hX dX4_fits_31 rfl 32 rfl ?_
          refine z_icmp_ne hX dX4_fits_32 83 35 (by decide) rfl (fun hc => ?_) (fun hc => ?_)
          · rw [if_neg hc] at h2_
            refine z_iinc (v := (s + 1)) hX dX4_fits_83 rfl (by rfl) (by decide) 86 rfl ?_
            refine z_goto hX dX4_fits_86 2 (by decide) ?_
            refine z_mask [true, true, true, true] ?_
            have hz := hrc2 _ h2_
            exact hz
          · rw [if_pos hc] at h2_
            refine z_aload_n hX dX4_fits_35 rfl 36 rfl ?_
            refine z_getF hX fX4_19 dX4_fits_36 zs_89 (by decide) rfl 39 rfl ?_
            refine z_iload_n hX dX4_fits_39 rfl 40 rfl ?_
            obtain ⟨hb, h3_⟩ := zgd h2_
            refine z_iald hX dX4_fits_40 zs_91 (zok_in hb) 41 rfl ?_
            refine z_if_lt hX dX4_fits_41 83 44 (by decide) rfl (fun hc => ?_) (fun hc => ?_)
            · rw [if_pos hc] at h3_
              refine z_iinc (v := (s + 1)) hX dX4_fits_83 rfl (by rfl) (by decide) 86 rfl ?_
              refine z_goto hX dX4_fits_86 2 (by decide) ?_
              refine z_mask [true, true, true, true] ?_
              have hz := hrc2 _ h3_
              exact hz
            · rw [if_neg hc] at h3_
              refine z_aload_n hX dX4_fits_44 rfl 45 rfl ?_
              refine z_getF hX fX4_19 dX4_fits_45 zs_89 (by decide) rfl 48 rfl ?_
              refine z_iload_n hX dX4_fits_48 rfl 49 rfl ?_
              obtain ⟨hb, h4_⟩ := zgd h3_
              refine z_iald hX dX4_fits_49 zs_91 (zok_in hb) 50 rfl ?_
              refine z_aload_n hX dX4_fits_50 rfl 51 rfl ?_
              refine z_alen (v := (Int32.ofNat n2)) hX dX4_fits_51 ha2 hn2 (by decide) rfl 52 rfl ?_
              refine z_icmp_ge hX dX4_fits_52 83 55 (by decide) rfl (fun hc => ?_) (fun hc => ?_)
              · rw [if_pos hc] at h4_
                refine z_iinc (v := (s + 1)) hX dX4_fits_83 rfl (by rfl) (by decide) 86 rfl ?_
                refine z_goto hX dX4_fits_86 2 (by decide) ?_
                refine z_mask [true, true, true, true] ?_
                have hz := hrc2 _ h4_
                exact hz
              · rw [if_neg hc] at h4_
                refine z_aload_n hX dX4_fits_55 rfl 56 rfl ?_
                refine z_aload_n hX dX4_fits_56 rfl 57 rfl ?_
                refine z_getF hX fX4_19 dX4_fits_57 zs_89 (by decide) rfl 60 rfl ?_
                refine z_iload_n hX dX4_fits_60 rfl 61 rfl ?_
                obtain ⟨hb, h5_⟩ := zgd h4_
                refine z_iald hX dX4_fits_61 zs_91 (zok_in hb) 62 rfl ?_
                obtain ⟨hb, h6_⟩ := zgd h5_
                refine z_iald hX dX4_fits_62 ha2 (zok_in hb) 63 rfl ?_
                refine z_iconst hX dX4_fits_63 qi_2 64 rfl ?_
                refine z_icmp_ne hX dX4_fits_64 71 67 (by decide) rfl (fun hc => ?_) (fun hc => ?_)
                · rw [if_neg hc] at h6_
                  refine z_iconst hX dX4_fits_71 qi_0 72 rfl ?_
                  refine z_mask [true, true, true, true] ?_
                  have hz := aX4_fits_J72 hX ha2 hn2 hrc2 h6_
                  exact hz
                · rw [if_pos hc] at h6_
                  refine z_iconst hX dX4_fits_67 qi_1 68 rfl ?_
                  refine z_goto hX dX4_fits_68 72 (by decide) ?_
                  refine z_mask [true, true, true, true] ?_
                  have hz := aX4_fits_J72 hX ha2 hn2 hrc2 h6_
                  exact hz
def gX4_fits (x1 : Int32) (a2 : Nat) (n2 : Nat) (M : zM) : Option Int32 :=
  zfix zFu (gX4_fits_L2 a2 n2 x1 M) 0
set_option maxRecDepth 100000 in
set_option maxHeartbeats 2000000 in
theorem mX4_fits {G : zG} {x1 : Int32} {a2 : Nat} {n2 : Nat} {M : zM} (ha2 : zs a2 = .inr (0, n2)) (hn2 : 0 < n2) {res : Int32} (h : gX4_fits x1 a2 n2 M = some res) : Ct G 1 tX4_fits [.ref 89, .int x1, .ref a2] M (zQip M res) := by
  unfold gX4_fits at h
  refine Ct.of (y := yX4_fits) rfl plX4 (Nat.le_of_ble_eq_true rfl) (fun X hX => ?_)
  replace hX : zC G X cX4_fits 4 RX4 (some .boolean) 1 := hX
  show Z G X _ 0 [some (.ref 89), some (.int x1), some (.ref a2), none] [] M
  refine z_iconst hX dX4_fits_0 qi_0 1 rfl ?_
  refine z_istore_n hX dX4_fits_1 (by decide) 2 rfl ?_
  refine z_mask [true, true, true, true] ?_
  have hz := aX4_fits_L2 hX ha2 hn2 _ _ h
  exact hz
def gX9_agrees_L24 (x3 : Int32) (rc24 : (Int32 × zM) → Option (Int32 × zM)) (s : (Int32 × zM)) : Option (Int32 × zM) :=
  (if x3 < s.1 then some (1, s.2)
  else zcV (gX8_pass 65 0 s.2) (fun M8_ => zcI (gX4_fits s.1 73 8 M8_) (fun v10_ => (if v10_ = 0 then some (0, M8_)
  else rc24 ((s.1 + 1), M8_)))))
set_option maxRecDepth 100000 in
set_option maxHeartbeats 2000000 in
theorem aX9_agrees_L24 {G : zG} {X : zX} {x3 : Int32} (hX : zC G X cX9_agrees 5 RX9 (some .boolean) 6)    {res : (Int32 × zM)}  : ∀ (N : Nat) (s : (Int32 × zM)), zfix N (gX9_agrees_L24 x3) s = some res → Z G X (zQi res) 24 [some (.ref 0), none, none, some (.int x3), some (.int s.1)] [] s.2 := by
  intro N
  induction N with
  | zero => intro s h; cases h
  | succ N hrc24 =>
    intro s h
    replace h : gX9_agrees_L24 x3 (zfix N (gX9_agrees_L24 x3)) s = some res := h
    unfold gX9_agrees_L24 at h
    refine z_iload hX dX9_agrees_24 rfl 26 rfl ?_
    refine z_iload_n hX dX9_agrees_26 rfl 27 rfl ?_
    refine z_icmp_gt hX dX9_agrees_27 65 30 (by decide) rfl (fun hc => ?_) (fun hc => ?_)
    · rw [if_pos hc] at h
      refine z_iconst hX dX9_agrees_65 qi_1 66 rfl ?_
      exact z_zreturn hX dX9_agrees_66 (by decide) (zend_i h)
    · rw [if_neg hc] at h
      refine z_aload_n hX dX9_agrees_30 rfl 31 rfl ?_
      refine z_getF hX fX9_45 dX9_agrees_31 zs_0 (by decide) rfl 34 rfl ?_
      refine z_iconst hX dX9_agrees_34 qi_0 35 rfl ?_
      obtain ⟨M8_, hq, h9_⟩ := zcV_of h
      refine z_callV hX vX8_pass lX9_271 dX9_agrees_35 zs_65 rfl (mX8_pass isW_65 hq) (by decide) rfl rfl (Nat.le_of_ble_eq_true rfl) 38 rfl (Qv.to (fun M' hv => ?_))
      subst hv
      refine z_aload_n hX dX9_agrees_38 rfl 39 rfl ?_
      refine z_getF hX fX9_61 dX9_agrees_39 zs_0 (by decide) rfl 42 rfl ?_
      refine z_iload hX dX9_agrees_42 rfl 44 rfl ?_
      refine z_aload_n hX dX9_agrees_44 rfl 45 rfl ?_
      refine z_getF hX fX9_45 dX9_agrees_45 zs_0 (by decide) rfl 48 rfl ?_
      refine z_getF hX fX9_186 dX9_agrees_48 zs_65 (by decide) rfl 51 rfl ?_
      obtain ⟨v10_, hq, h11_⟩ := zcI_of h9_
      refine z_callV hX vX4_fits lX9_357 dX9_agrees_51 zs_89 rfl (mX4_fits zs_73 (by decide) hq) (by decide) rfl rfl (Nat.le_of_ble_eq_true rfl) 54 rfl (Qi.to (fun v' M' hv => ?_))
      obtain ⟨rfl, rfl⟩ := hv
      refine z_if_ne hX dX9_agrees_54 59 57 (by decide) rfl (fun hc => ?_) (fun hc => ?_)
      · rw [if_neg hc] at h11_
        refine z_iinc (v := (s.1 + 1)) hX dX9_agrees_59 rfl (by rfl) (by decide) 62 rfl ?_
        refine z_goto hX dX9_agrees_62 24 (by decide) ?_
        refine z_mask [true, false, false, true, true] ?_
        have hz := hrc24 _ h11_
        exact hz
      · rw [if_pos hc] at h11_
        refine z_iconst hX dX9_agrees_57 qi_0 58 rfl ?_
        exact z_zreturn hX dX9_agrees_58 (by decide) (zend_i h11_)
def gX9_agrees (x1 : Int32) (x2 : Int32) (x3 : Int32) (M : zM) : Option (Int32 × zM) :=
  zgP (M.2.2 0 2) (fun p1_ => zcV (gX8_begin 65 p1_ M) (fun M3_ => zg (zok x1 6) (zlet (zI M3_ 67 (x1 : Int32).toNatClampNeg x2) (fun M6_ => zfix zFu (gX9_agrees_L24 x3) (1, M6_)))))
set_option maxRecDepth 100000 in
set_option maxHeartbeats 2000000 in
theorem mX9_agrees {G : zG} {x1 : Int32} {x2 : Int32} {x3 : Int32} {M : zM}  {res : (Int32 × zM)} (h : gX9_agrees x1 x2 x3 M = some res) : Ct G 6 tX9_agrees [.ref 0, .int x1, .int x2, .int x3] M (zQi res) := by
  unfold gX9_agrees at h
  refine Ct.of (y := yX9_agrees) rfl plX9 (Nat.le_of_ble_eq_true rfl) (fun X hX => ?_)
  replace hX : zC G X cX9_agrees 5 RX9 (some .boolean) 6 := hX
  show Z G X _ 0 [some (.ref 0), some (.int x1), some (.int x2), some (.int x3), none] [] M
  refine z_aload_n hX dX9_agrees_0 rfl 1 rfl ?_
  refine z_getF hX fX9_45 dX9_agrees_1 zs_0 (by decide) rfl 4 rfl ?_
  refine z_aload_n hX dX9_agrees_4 rfl 5 rfl ?_
  obtain ⟨p1_, hm, hp1_, h2_⟩ := zgP_of h
  refine z_getR hX fX9_18 dX9_agrees_5 zs_0 (by decide) rfl hm 8 rfl ?_
  obtain ⟨M3_, hq, h4_⟩ := zcV_of h2_
  refine z_callV hX vX8_begin lX9_100 dX9_agrees_8 zs_65 rfl (mX8_begin isW_65 hp1_ hq) (by decide) rfl rfl (Nat.le_of_ble_eq_true rfl) 11 rfl (Qv.to (fun M' hv => ?_))
  subst hv
  refine z_aload_n hX dX9_agrees_11 rfl 12 rfl ?_
  refine z_getF hX fX9_45 dX9_agrees_12 zs_0 (by decide) rfl 15 rfl ?_
  refine z_getF hX fX9_143 dX9_agrees_15 zs_65 (by decide) rfl 18 rfl ?_
  refine z_iload_n hX dX9_agrees_18 rfl 19 rfl ?_
  refine z_iload_n hX dX9_agrees_19 rfl 20 rfl ?_
  obtain ⟨hb, h5_⟩ := zgd h4_
  refine z_iast hX dX9_agrees_20 zs_67 (zok_in hb) 21 rfl ?_
  refine z_mem h5_ (fun M6_ h7_ => ?_)
  refine z_iconst hX dX9_agrees_21 qi_1 22 rfl ?_
  refine z_istore hX dX9_agrees_22 (by decide) 24 rfl ?_
  refine z_mask [true, false, false, true, true] ?_
  have hz := aX9_agrees_L24 hX _ _ h7_
  exact hz
def gX9_rues_L23 (x1 : Int32) (x2 : Int32) (rc23 : (Int32 × Int32 × zM) → Option (Int32 × zM)) (s : (Int32 × Int32 × zM)) : Option (Int32 × zM) :=
  (if 10 ≤ s.2.1 then some (s.1, s.2.2)
  else zcIM (gX9_agrees x1 (10 * s.2.1) x2 s.2.2) (fun v6_ M7_ => (if v6_ = 0 then rc23 (s.1, (s.2.1 + 1), M7_)
  else zlet ((s.1 ||| ((1 : Int32) <<< ((s.2.1 : Int32) &&& 31)))) (fun x9_ => rc23 (x9_, (s.2.1 + 1), M7_)))))
set_option maxRecDepth 100000 in
set_option maxHeartbeats 2000000 in
theorem aX9_rues_L23 {G : zG} {X : zX} {x1 : Int32} {x2 : Int32} (hX : zC G X cX9_rues 5 RX9 (some .int) 7)    {res : (Int32 × zM)}  : ∀ (N : Nat) (s : (Int32 × Int32 × zM)), zfix N (gX9_rues_L23 x1 x2) s = some res → Z G X (zQi res) 23 [some (.ref 0), some (.int x1), some (.int x2), some (.int s.1), some (.int s.2.1)] [] s.2.2 := by
  intro N
  induction N with
  | zero => intro s h; cases h
  | succ N hrc23 =>
    intro s h
    replace h : gX9_rues_L23 x1 x2 (zfix N (gX9_rues_L23 x1 x2)) s = some res := h
    unfold gX9_rues_L23 at h
    refine z_iload hX dX9_rues_23 rfl 25 rfl ?_
    refine z_bipush hX dX9_rues_25 qb_10 27 rfl ?_
    refine z_icmp_ge hX dX9_rues_27 57 30 (by decide) rfl (fun hc => ?_) (fun hc => ?_)
    · rw [if_pos hc] at h
      refine z_iload_n hX dX9_rues_57 rfl 58 rfl ?_
      exact z_ireturn hX dX9_rues_58 (zend_i h)
    · rw [if_neg hc] at h
      refine z_aload_n hX dX9_rues_30 rfl 31 rfl ?_
      refine z_iload_n hX dX9_rues_31 rfl 32 rfl ?_
      refine z_bipush hX dX9_rues_32 qb_10 34 rfl ?_
      refine z_iload hX dX9_rues_34 rfl 36 rfl ?_
      refine z_imul hX dX9_rues_36 37 rfl ?_
      refine z_iload_n hX dX9_rues_37 rfl 38 rfl ?_
      obtain ⟨v6_, M7_, hq, h8_⟩ := zcIM_of h
      refine z_callV hX vX9_agrees lX9_354 dX9_rues_38 zs_0 rfl (mX9_agrees  hq) (by decide) rfl rfl (Nat.le_of_ble_eq_true rfl) 41 rfl (Qi.to (fun v' M' hv => ?_))
      cases hv
      refine z_if_eq hX dX9_rues_41 51 44 (by decide) rfl (fun hc => ?_) (fun hc => ?_)
      · rw [if_pos hc] at h8_
        refine z_iinc (v := (s.2.1 + 1)) hX dX9_rues_51 rfl (by rfl) (by decide) 54 rfl ?_
        refine z_goto hX dX9_rues_54 23 (by decide) ?_
        refine z_mask [true, true, true, true, true] ?_
        have hz := hrc23 _ h8_
        exact hz
      · rw [if_neg hc] at h8_
        refine z_iload_n hX dX9_rues_44 rfl 45 rfl ?_
        refine z_iconst hX dX9_rues_45 qi_1 46 rfl ?_
        refine z_iload hX dX9_rues_46 rfl 48 rfl ?_
        refine z_ishl hX dX9_rues_48 49 rfl ?_
        refine z_ior hX dX9_rues_49 50 rfl ?_
        refine z_topi h8_ (fun x9_ h10_ => ?_)
        refine z_istore_n hX dX9_rues_50 (by decide) 51 rfl ?_
        refine z_iinc (v := (s.2.1 + 1)) hX dX9_rues_51 rfl (by rfl) (by decide) 54 rfl ?_
        refine z_goto hX dX9_rues_54 23 (by decide) ?_
        refine z_mask [true, true, true, true, true] ?_
        have hz := hrc23 _ h10_
        exact hz
def gX9_rues (x1 : Int32) (M : zM) : Option (Int32 × zM) :=
  zcI (gX9_isMan x1 M) (fun v1_ => (if v1_ = 0 then some ((-1), M)
  else zcIM (gX4_markKnown M) (fun v3_ M4_ => zfix zFu (gX9_rues_L23 x1 v3_) (0, 0, M4_))))
set_option maxRecDepth 100000 in
set_option maxHeartbeats 2000000 in
theorem mX9_rues {G : zG} {x1 : Int32} {M : zM}  {res : (Int32 × zM)} (h : gX9_rues x1 M = some res) : Ct G 7 tX9_rues [.ref 0, .int x1] M (zQi res) := by
  unfold gX9_rues at h
  refine Ct.of (y := yX9_rues) rfl plX9 (Nat.le_of_ble_eq_true rfl) (fun X hX => ?_)
  replace hX : zC G X cX9_rues 5 RX9 (some .int) 7 := hX
  show Z G X _ 0 [some (.ref 0), some (.int x1), none, none, none] [] M
  refine z_aload_n hX dX9_rues_0 rfl 1 rfl ?_
  refine z_iload_n hX dX9_rues_1 rfl 2 rfl ?_
  obtain ⟨v1_, hq, h2_⟩ := zcI_of h
  refine z_callV hX vX9_isMan lX9_129 dX9_rues_2 zs_0 rfl (mX9_isMan  hq) (by decide) rfl rfl (Nat.le_of_ble_eq_true rfl) 5 rfl (Qi.to (fun v' M' hv => ?_))
  obtain ⟨rfl, rfl⟩ := hv
  refine z_if_ne hX dX9_rues_5 10 8 (by decide) rfl (fun hc => ?_) (fun hc => ?_)
  · rw [if_neg hc] at h2_
    refine z_aload_n hX dX9_rues_10 rfl 11 rfl ?_
    refine z_getF hX fX9_61 dX9_rues_11 zs_0 (by decide) rfl 14 rfl ?_
    obtain ⟨v3_, M4_, hq, h5_⟩ := zcIM_of h2_
    refine z_callV hX vX4_markKnown lX9_351 dX9_rues_14 zs_89 rfl (mX4_markKnown  hq) (by decide) rfl rfl (Nat.le_of_ble_eq_true rfl) 17 rfl (Qi.to (fun v' M' hv => ?_))
    cases hv
    refine z_istore_n hX dX9_rues_17 (by decide) 18 rfl ?_
    refine z_iconst hX dX9_rues_18 qi_0 19 rfl ?_
    refine z_istore_n hX dX9_rues_19 (by decide) 20 rfl ?_
    refine z_iconst hX dX9_rues_20 qi_0 21 rfl ?_
    refine z_istore hX dX9_rues_21 (by decide) 23 rfl ?_
    refine z_mask [true, true, true, true, true] ?_
    have hz := aX9_rues_L23 hX _ _ h5_
    exact hz
  · rw [if_pos hc] at h2_
    refine z_iconst hX dX9_rues_8 qi_m1 9 rfl ?_
    exact z_ireturn hX dX9_rues_9 (zend_i h2_)
def gX10_starts_L137 (x1 : Int32) (rc137 : (Int32 × zM) → Option zM) (s : (Int32 × zM)) : Option zM :=
  (if 8 ≤ s.1 then some s.2
  else zg (zok ((8 * x1) + s.1) 184) (zlet (zI s.2 130 (((8 * x1) + s.1) : Int32).toNatClampNeg 0) (fun M17_ => (if (M17_.1 100 (1 : Int32).toNatClampNeg) ≤ s.1 then zg (zok ((8 * x1) + s.1) 184) (zlet (zI M17_ 131 (((8 * x1) + s.1) : Int32).toNatClampNeg 0) (fun M20_ => rc137 ((s.1 + 1), M20_)))
  else zg (zok s.1 16) (zg (zok ((8 * x1) + s.1) 184) (zlet (zI M17_ 131 (((8 * x1) + s.1) : Int32).toNatClampNeg (M17_.1 108 (s.1 : Int32).toNatClampNeg)) (fun M24_ => rc137 ((s.1 + 1), M24_))))))))
set_option maxRecDepth 100000 in
set_option maxHeartbeats 2000000 in
theorem aX10_starts_L137 {G : zG} {X : zX} {x1 : Int32} (hX : zC G X cX10_starts 4 RX10 none 1)    {res : zM}  : ∀ (N : Nat) (s : (Int32 × zM)), zfix N (gX10_starts_L137 x1) s = some res → Z G X (zQv res) 137 [some (.ref 98), some (.int x1), some (.int s.1), none] [] s.2 := by
  intro N
  induction N with
  | zero => intro s h; cases h
  | succ N hrc137 =>
    intro s h
    replace h : gX10_starts_L137 x1 (zfix N (gX10_starts_L137 x1)) s = some res := h
    unfold gX10_starts_L137 at h
    refine z_iload_n hX dX10_starts_137 rfl 138 rfl ?_
    refine z_bipush hX dX10_starts_138 qb_8 140 rfl ?_
    refine z_icmp_ge hX dX10_starts_140 192 143 (by decide) rfl (fun hc => ?_) (fun hc => ?_)
    · rw [if_pos hc] at h
      exact z_return hX dX10_starts_192 (zend_v h)
    · rw [if_neg hc] at h
      refine z_aload_n hX dX10_starts_143 rfl 144 rfl ?_
      refine z_getF hX fX10_108 dX10_starts_144 zs_98 (by decide) rfl 147 rfl ?_
      refine z_bipush hX dX10_starts_147 qb_8 149 rfl ?_
      refine z_iload_n hX dX10_starts_149 rfl 150 rfl ?_
      refine z_imul hX dX10_starts_150 151 rfl ?_
      refine z_iload_n hX dX10_starts_151 rfl 152 rfl ?_
      refine z_iadd hX dX10_starts_152 153 rfl ?_
      refine z_iconst hX dX10_starts_153 qi_0 154 rfl ?_
      obtain ⟨hb, h16_⟩ := zgd h
      refine z_iast hX dX10_starts_154 zs_130 (zok_in hb) 155 rfl ?_
      refine z_mem h16_ (fun M17_ h18_ => ?_)
      refine z_aload_n hX dX10_starts_155 rfl 156 rfl ?_
      refine z_getF hX fX10_111 dX10_starts_156 zs_98 (by decide) rfl 159 rfl ?_
      refine z_bipush hX dX10_starts_159 qb_8 161 rfl ?_
      refine z_iload_n hX dX10_starts_161 rfl 162 rfl ?_
      refine z_imul hX dX10_starts_162 163 rfl ?_
      refine z_iload_n hX dX10_starts_163 rfl 164 rfl ?_
      refine z_iadd hX dX10_starts_164 165 rfl ?_
      refine z_iload_n hX dX10_starts_165 rfl 166 rfl ?_
      refine z_aload_n hX dX10_starts_166 rfl 167 rfl ?_
      refine z_getF hX fX10_13 dX10_starts_167 zs_98 (by decide) rfl 170 rfl ?_
      refine z_iconst hX dX10_starts_170 qi_1 171 rfl ?_
      refine z_iald hX dX10_starts_171 zs_100 (zok_in (by decide)) 172 rfl ?_
      refine z_icmp_ge hX dX10_starts_172 184 175 (by decide) rfl (fun hc => ?_) (fun hc => ?_)
      · rw [if_pos hc] at h18_
        refine z_iconst hX dX10_starts_184 qi_0 185 rfl ?_
        obtain ⟨hb, h19_⟩ := zgd h18_
        refine z_iast hX dX10_starts_185 zs_131 (zok_in hb) 186 rfl ?_
        refine z_mem h19_ (fun M20_ h21_ => ?_)
        refine z_iinc (v := (s.1 + 1)) hX dX10_starts_186 rfl (by rfl) (by decide) 189 rfl ?_
        refine z_goto hX dX10_starts_189 137 (by decide) ?_
        refine z_mask [true, true, true, false] ?_
        have hz := hrc137 _ h21_
        exact hz
      · rw [if_neg hc] at h18_
        refine z_aload_n hX dX10_starts_175 rfl 176 rfl ?_
        refine z_getF hX fX10_37 dX10_starts_176 zs_98 (by decide) rfl 179 rfl ?_
        refine z_iload_n hX dX10_starts_179 rfl 180 rfl ?_
        obtain ⟨hb, h22_⟩ := zgd h18_
        refine z_iald hX dX10_starts_180 zs_108 (zok_in hb) 181 rfl ?_
        refine z_goto hX dX10_starts_181 185 (by decide) ?_
        obtain ⟨hb, h23_⟩ := zgd h22_
        refine z_iast hX dX10_starts_185 zs_131 (zok_in hb) 186 rfl ?_
        refine z_mem h23_ (fun M24_ h25_ => ?_)
        refine z_iinc (v := (s.1 + 1)) hX dX10_starts_186 rfl (by rfl) (by decide) 189 rfl ?_
        refine z_goto hX dX10_starts_189 137 (by decide) ?_
        refine z_mask [true, true, true, false] ?_
        have hz := hrc137 _ h25_
        exact hz
def gX10_starts_J86 (x1 : Int32) (x2 : Int32) (x3 : Int32) (y1 : Int32) (y2 : Int32) (rc48 : (Int32 × zM) → Option zM) (M : zM) : Option zM :=
  zg (zok y1 138) (zlet (zI M 123 (y1 : Int32).toNatClampNeg y2) (fun M27_ => zg (zok x3 138) (zlet (zI M27_ 124 (x3 : Int32).toNatClampNeg 0) (fun M30_ => zg (zok x3 138) (zlet (zI M30_ 125 (x3 : Int32).toNatClampNeg 0) (fun M33_ => zg (zok x3 138) (zlet (zI M33_ 126 (x3 : Int32).toNatClampNeg (-1)) (fun M36_ => zg (zok x3 138) (zlet (zI M36_ 127 (x3 : Int32).toNatClampNeg 0) (fun M39_ => zg (zok x3 138) (zlet (zI M39_ 128 (x3 : Int32).toNatClampNeg 0) (fun M42_ => zg (zok x3 138) (zlet (zI M42_ 129 (x3 : Int32).toNatClampNeg x2) (fun M45_ => rc48 ((x2 + 1), M45_)))))))))))))))
set_option maxRecDepth 100000 in
set_option maxHeartbeats 2000000 in
theorem aX10_starts_J86 {G : zG} {X : zX} {x1 : Int32} {x2 : Int32} {x3 : Int32} {y1 : Int32} {y2 : Int32} (hX : zC G X cX10_starts 4 RX10 none 1)  {rc48 : (Int32 × zM) → Option zM} {M : zM} {res : zM} (hrc48 : ∀ s : (Int32 × zM), rc48 s = some res → Z G X (zQv res) 48 [some (.ref 98), some (.int x1), some (.int s.1), none] [] s.2) (h : gX10_starts_J86 x1 x2 x3 y1 y2 rc48 M = some res) : Z G X (zQv res) 86 [some (.ref 98), some (.int x1), some (.int x2), some (.int x3)] [.int y2, .int y1, .ref 123] M := by
  unfold gX10_starts_J86 at h
  obtain ⟨hb, h26_⟩ := zgd h
  refine z_iast hX dX10_starts_86 zs_123 (zok_in hb) 87 rfl ?_
  refine z_mem h26_ (fun M27_ h28_ => ?_)
  refine z_aload_n hX dX10_starts_87 rfl 88 rfl ?_
  refine z_getF hX fX10_90 dX10_starts_88 zs_98 (by decide) rfl 91 rfl ?_
  refine z_iload_n hX dX10_starts_91 rfl 92 rfl ?_
  refine z_iconst hX dX10_starts_92 qi_0 93 rfl ?_
  obtain ⟨hb, h29_⟩ := zgd h28_
  refine z_iast hX dX10_starts_93 zs_124 (zok_in hb) 94 rfl ?_
  refine z_mem h29_ (fun M30_ h31_ => ?_)
  refine z_aload_n hX dX10_starts_94 rfl 95 rfl ?_
  refine z_getF hX fX10_93 dX10_starts_95 zs_98 (by decide) rfl 98 rfl ?_
  refine z_iload_n hX dX10_starts_98 rfl 99 rfl ?_
  refine z_iconst hX dX10_starts_99 qi_0 100 rfl ?_
  obtain ⟨hb, h32_⟩ := zgd h31_
  refine z_iast hX dX10_starts_100 zs_125 (zok_in hb) 101 rfl ?_
  refine z_mem h32_ (fun M33_ h34_ => ?_)
  refine z_aload_n hX dX10_starts_101 rfl 102 rfl ?_
  refine z_getF hX fX10_96 dX10_starts_102 zs_98 (by decide) rfl 105 rfl ?_
  refine z_iload_n hX dX10_starts_105 rfl 106 rfl ?_
  refine z_iconst hX dX10_starts_106 qi_m1 107 rfl ?_
  obtain ⟨hb, h35_⟩ := zgd h34_
  refine z_iast hX dX10_starts_107 zs_126 (zok_in hb) 108 rfl ?_
  refine z_mem h35_ (fun M36_ h37_ => ?_)
  refine z_aload_n hX dX10_starts_108 rfl 109 rfl ?_
  refine z_getF hX fX10_99 dX10_starts_109 zs_98 (by decide) rfl 112 rfl ?_
  refine z_iload_n hX dX10_starts_112 rfl 113 rfl ?_
  refine z_iconst hX dX10_starts_113 qi_0 114 rfl ?_
  obtain ⟨hb, h38_⟩ := zgd h37_
  refine z_iast hX dX10_starts_114 zs_127 (zok_in hb) 115 rfl ?_
  refine z_mem h38_ (fun M39_ h40_ => ?_)
  refine z_aload_n hX dX10_starts_115 rfl 116 rfl ?_
  refine z_getF hX fX10_102 dX10_starts_116 zs_98 (by decide) rfl 119 rfl ?_
  refine z_iload_n hX dX10_starts_119 rfl 120 rfl ?_
  refine z_iconst hX dX10_starts_120 qi_0 121 rfl ?_
  obtain ⟨hb, h41_⟩ := zgd h40_
  refine z_iast hX dX10_starts_121 zs_128 (zok_in hb) 122 rfl ?_
  refine z_mem h41_ (fun M42_ h43_ => ?_)
  refine z_aload_n hX dX10_starts_122 rfl 123 rfl ?_
  refine z_getF hX fX10_105 dX10_starts_123 zs_98 (by decide) rfl 126 rfl ?_
  refine z_iload_n hX dX10_starts_126 rfl 127 rfl ?_
  refine z_iload_n hX dX10_starts_127 rfl 128 rfl ?_
  obtain ⟨hb, h44_⟩ := zgd h43_
  refine z_iast hX dX10_starts_128 zs_129 (zok_in hb) 129 rfl ?_
  refine z_mem h44_ (fun M45_ h46_ => ?_)
  refine z_iinc (v := (x2 + 1)) hX dX10_starts_129 rfl (by rfl) (by decide) 132 rfl ?_
  refine z_goto hX dX10_starts_132 48 (by decide) ?_
  refine z_mask [true, true, true, false] ?_
  have hz := hrc48 _ h46_
  exact hz
def gX10_starts_L48 (x1 : Int32) (rc48 : (Int32 × zM) → Option zM) (s : (Int32 × zM)) : Option zM :=
  (if 6 ≤ s.1 then zfix zFu (gX10_starts_L137 x1) (0, s.2)
  else (if (s.2.1 100 (0 : Int32).toNatClampNeg) ≤ s.1 then gX10_starts_J86 x1 s.1 ((6 * x1) + s.1) ((6 * x1) + s.1) 0 rc48 s.2
  else zg (zok s.1 12) (gX10_starts_J86 x1 s.1 ((6 * x1) + s.1) ((6 * x1) + s.1) (s.2.1 103 (s.1 : Int32).toNatClampNeg) rc48 s.2)))
set_option maxRecDepth 100000 in
set_option maxHeartbeats 2000000 in
theorem aX10_starts_L48 {G : zG} {X : zX} {x1 : Int32} (hX : zC G X cX10_starts 4 RX10 none 1)    {res : zM}  : ∀ (N : Nat) (s : (Int32 × zM)), zfix N (gX10_starts_L48 x1) s = some res → Z G X (zQv res) 48 [some (.ref 98), some (.int x1), some (.int s.1), none] [] s.2 := by
  intro N
  induction N with
  | zero => intro s h; cases h
  | succ N hrc48 =>
    intro s h
    replace h : gX10_starts_L48 x1 (zfix N (gX10_starts_L48 x1)) s = some res := h
    unfold gX10_starts_L48 at h
    refine z_iload_n hX dX10_starts_48 rfl 49 rfl ?_
    refine z_bipush hX dX10_starts_49 qb_6 51 rfl ?_
    refine z_icmp_ge hX dX10_starts_51 135 54 (by decide) rfl (fun hc => ?_) (fun hc => ?_)
    · rw [if_pos hc] at h
      refine z_iconst hX dX10_starts_135 qi_0 136 rfl ?_
      refine z_istore_n hX dX10_starts_136 (by decide) 137 rfl ?_
      refine z_mask [true, true, true, false] ?_
      have hz := aX10_starts_L137 hX _ _ h
      exact hz
    · rw [if_neg hc] at h
      refine z_bipush hX dX10_starts_54 qb_6 56 rfl ?_
      refine z_iload_n hX dX10_starts_56 rfl 57 rfl ?_
      refine z_imul hX dX10_starts_57 58 rfl ?_
      refine z_iload_n hX dX10_starts_58 rfl 59 rfl ?_
      refine z_iadd hX dX10_starts_59 60 rfl ?_
      refine z_istore_n hX dX10_starts_60 (by decide) 61 rfl ?_
      refine z_aload_n hX dX10_starts_61 rfl 62 rfl ?_
      refine z_getF hX fX10_87 dX10_starts_62 zs_98 (by decide) rfl 65 rfl ?_
      refine z_iload_n hX dX10_starts_65 rfl 66 rfl ?_
      refine z_iload_n hX dX10_starts_66 rfl 67 rfl ?_
      refine z_aload_n hX dX10_starts_67 rfl 68 rfl ?_
      refine z_getF hX fX10_13 dX10_starts_68 zs_98 (by decide) rfl 71 rfl ?_
      refine z_iconst hX dX10_starts_71 qi_0 72 rfl ?_
      refine z_iald hX dX10_starts_72 zs_100 (zok_in (by decide)) 73 rfl ?_
      refine z_icmp_ge hX dX10_starts_73 85 76 (by decide) rfl (fun hc => ?_) (fun hc => ?_)
      · rw [if_pos hc] at h
        refine z_iconst hX dX10_starts_85 qi_0 86 rfl ?_
        refine z_mask [true, true, true, true] ?_
        have hz := aX10_starts_J86 hX hrc48 h
        exact hz
      · rw [if_neg hc] at h
        refine z_aload_n hX dX10_starts_76 rfl 77 rfl ?_
        refine z_getF hX fX10_22 dX10_starts_77 zs_98 (by decide) rfl 80 rfl ?_
        refine z_iload_n hX dX10_starts_80 rfl 81 rfl ?_
        obtain ⟨hb, h47_⟩ := zgd h
        refine z_iald hX dX10_starts_81 zs_103 (zok_in hb) 82 rfl ?_
        refine z_goto hX dX10_starts_82 86 (by decide) ?_
        refine z_mask [true, true, true, true] ?_
        have hz := aX10_starts_J86 hX hrc48 h47_
        exact hz
def gX10_starts (x1 : Int32) (M : zM) : Option zM :=
  zg (zok x1 23) (zlet (zI M 118 (x1 : Int32).toNatClampNeg 0) (fun M2_ => zg (zok x1 23) (zlet (zI M2_ 119 (x1 : Int32).toNatClampNeg (M2_.1 100 (7 : Int32).toNatClampNeg)) (fun M5_ => zg (zok x1 23) (zlet (zI M5_ 120 (x1 : Int32).toNatClampNeg 0) (fun M8_ => zg (zok x1 23) (zlet (zI M8_ 121 (x1 : Int32).toNatClampNeg (M8_.1 100 (3 : Int32).toNatClampNeg)) (fun M11_ => zg (zok x1 23) (zlet (zI M11_ 122 (x1 : Int32).toNatClampNeg 0) (fun M14_ => zfix zFu (gX10_starts_L48 x1) (0, M14_)))))))))))
set_option maxRecDepth 100000 in
set_option maxHeartbeats 2000000 in
theorem mX10_starts {G : zG} {x1 : Int32} {M : zM}  {res : zM} (h : gX10_starts x1 M = some res) : Ct G 1 tX10_starts [.ref 98, .int x1] M (zQv res) := by
  unfold gX10_starts at h
  refine Ct.of (y := yX10_starts) rfl plX10 (Nat.le_of_ble_eq_true rfl) (fun X hX => ?_)
  replace hX : zC G X cX10_starts 4 RX10 none 1 := hX
  show Z G X _ 0 [some (.ref 98), some (.int x1), none, none] [] M
  refine z_aload_n hX dX10_starts_0 rfl 1 rfl ?_
  refine z_getF hX fX10_72 dX10_starts_1 zs_98 (by decide) rfl 4 rfl ?_
  refine z_iload_n hX dX10_starts_4 rfl 5 rfl ?_
  refine z_iconst hX dX10_starts_5 qi_0 6 rfl ?_
  obtain ⟨hb, h1_⟩ := zgd h
  refine z_iast hX dX10_starts_6 zs_118 (zok_in hb) 7 rfl ?_
  refine z_mem h1_ (fun M2_ h3_ => ?_)
  refine z_aload_n hX dX10_starts_7 rfl 8 rfl ?_
  refine z_getF hX fX10_75 dX10_starts_8 zs_98 (by decide) rfl 11 rfl ?_
  refine z_iload_n hX dX10_starts_11 rfl 12 rfl ?_
  refine z_aload_n hX dX10_starts_12 rfl 13 rfl ?_
  refine z_getF hX fX10_13 dX10_starts_13 zs_98 (by decide) rfl 16 rfl ?_
  refine z_bipush hX dX10_starts_16 qb_7 18 rfl ?_
  refine z_iald hX dX10_starts_18 zs_100 (zok_in (by decide)) 19 rfl ?_
  obtain ⟨hb, h4_⟩ := zgd h3_
  refine z_iast hX dX10_starts_19 zs_119 (zok_in hb) 20 rfl ?_
  refine z_mem h4_ (fun M5_ h6_ => ?_)
  refine z_aload_n hX dX10_starts_20 rfl 21 rfl ?_
  refine z_getF hX fX10_78 dX10_starts_21 zs_98 (by decide) rfl 24 rfl ?_
  refine z_iload_n hX dX10_starts_24 rfl 25 rfl ?_
  refine z_iconst hX dX10_starts_25 qi_0 26 rfl ?_
  obtain ⟨hb, h7_⟩ := zgd h6_
  refine z_iast hX dX10_starts_26 zs_120 (zok_in hb) 27 rfl ?_
  refine z_mem h7_ (fun M8_ h9_ => ?_)
  refine z_aload_n hX dX10_starts_27 rfl 28 rfl ?_
  refine z_getF hX fX10_81 dX10_starts_28 zs_98 (by decide) rfl 31 rfl ?_
  refine z_iload_n hX dX10_starts_31 rfl 32 rfl ?_
  refine z_aload_n hX dX10_starts_32 rfl 33 rfl ?_
  refine z_getF hX fX10_13 dX10_starts_33 zs_98 (by decide) rfl 36 rfl ?_
  refine z_iconst hX dX10_starts_36 qi_3 37 rfl ?_
  refine z_iald hX dX10_starts_37 zs_100 (zok_in (by decide)) 38 rfl ?_
  obtain ⟨hb, h10_⟩ := zgd h9_
  refine z_iast hX dX10_starts_38 zs_121 (zok_in hb) 39 rfl ?_
  refine z_mem h10_ (fun M11_ h12_ => ?_)
  refine z_aload_n hX dX10_starts_39 rfl 40 rfl ?_
  refine z_getF hX fX10_84 dX10_starts_40 zs_98 (by decide) rfl 43 rfl ?_
  refine z_iload_n hX dX10_starts_43 rfl 44 rfl ?_
  refine z_iconst hX dX10_starts_44 qi_0 45 rfl ?_
  obtain ⟨hb, h13_⟩ := zgd h12_
  refine z_iast hX dX10_starts_45 zs_122 (zok_in hb) 46 rfl ?_
  refine z_mem h13_ (fun M14_ h15_ => ?_)
  refine z_iconst hX dX10_starts_46 qi_0 47 rfl ?_
  refine z_istore_n hX dX10_starts_47 (by decide) 48 rfl ?_
  refine z_mask [true, true, true, false] ?_
  have hz := aX10_starts_L48 hX _ _ h15_
  exact hz
