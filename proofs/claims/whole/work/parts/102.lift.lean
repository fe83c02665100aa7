def gX5_fails (x1 : Int32) (M : zM) : Option (Int32 × zM) :=
  zlet (zI M 47 0 x1) (fun M1_ => zlet (zI M1_ 47 1 (M1_.1 47 6)) (fun M3_ => some (0, M3_)))
set_option maxRecDepth 100000 in
set_option maxHeartbeats 2000000 in
theorem mX5_fails {G : zG} {x1 : Int32} {M : zM}  {res : (Int32 × zM)} (h : gX5_fails x1 M = some res) : Ct G 1 tX5_fails [.ref 47, .int x1] M (zQi res) := by
  unfold gX5_fails at h
  refine Ct.of (y := yX5_fails) rfl plX5 (Nat.le_of_ble_eq_true rfl) (fun X hX => ?_)
  replace hX : zC G X cX5_fails 2 RX5 (some .boolean) 1 := hX
  show Z G X _ 0 [some (.ref 47), some (.int x1)] [] M
  refine z_aload_n hX dX5_fails_0 rfl 1 rfl ?_
  refine z_iload_n hX dX5_fails_1 rfl 2 rfl ?_
  refine z_putI hX pX5_33 dX5_fails_2 zs_47 (by decide) rfl 5 rfl ?_
  refine z_mem h (fun M1_ h2_ => ?_)
  refine z_aload_n hX dX5_fails_5 rfl 6 rfl ?_
  refine z_aload_n hX dX5_fails_6 rfl 7 rfl ?_
  refine z_getI hX fX5_67 dX5_fails_7 zs_47 (by decide) rfl 10 rfl ?_
  refine z_putI hX pX5_9 dX5_fails_10 zs_47 (by decide) rfl 13 rfl ?_
  refine z_mem h2_ (fun M3_ h4_ => ?_)
  refine z_iconst hX dX5_fails_13 qi_0 14 rfl ?_
  exact z_zreturn hX dX5_fails_14 (by decide) (zend_i h4_)
def gX5_reads (x1 : Int32) (M : zM) : Option (Int32 × zM) :=
  zcV (gX5_advance M) (fun M1_ => (if (M1_.1 47 5) = x1 then some (1, M1_)
  else zcIM (gX5_fails 1 M1_) (fun v3_ M4_ => (if v3_ = 0 then some (0, M4_)
  else some (1, M4_)))))
set_option maxRecDepth 100000 in
set_option maxHeartbeats 2000000 in
theorem mX5_reads {G : zG} {x1 : Int32} {M : zM}  {res : (Int32 × zM)} (h : gX5_reads x1 M = some res) : Ct G 2 tX5_reads [.ref 47, .int x1] M (zQi res) := by
  unfold gX5_reads at h
  refine Ct.of (y := yX5_reads) rfl plX5 (Nat.le_of_ble_eq_true rfl) (fun X hX => ?_)
  replace hX : zC G X cX5_reads 2 RX5 (some .boolean) 2 := hX
  show Z G X _ 0 [some (.ref 47), some (.int x1)] [] M
  refine z_aload_n hX dX5_reads_0 rfl 1 rfl ?_
  obtain ⟨M1_, hq, h2_⟩ := zcV_of h
  refine z_callV hX vX5_advance lX5_48 dX5_reads_1 zs_47 rfl (mX5_advance  hq) (by decide) rfl rfl (Nat.le_of_ble_eq_true rfl) 4 rfl (Qv.to (fun M' hv => ?_))
  subst hv
  refine z_aload_n hX dX5_reads_4 rfl 5 rfl ?_
  refine z_getI hX fX5_51 dX5_reads_5 zs_47 (by decide) rfl 8 rfl ?_
  refine z_iload_n hX dX5_reads_8 rfl 9 rfl ?_
  refine z_icmp_eq hX dX5_reads_9 20 12 (by decide) rfl (fun hc => ?_) (fun hc => ?_)
  · rw [if_pos hc] at h2_
    refine z_iconst hX dX5_reads_20 qi_1 21 rfl ?_
    refine z_goto hX dX5_reads_21 25 (by decide) ?_
    exact z_zreturn hX dX5_reads_25 (by decide) (zend_i h2_)
  · rw [if_neg hc] at h2_
    refine z_aload_n hX dX5_reads_12 rfl 13 rfl ?_
    refine z_iconst hX dX5_reads_13 qi_1 14 rfl ?_
    obtain ⟨v3_, M4_, hq, h5_⟩ := zcIM_of h2_
    refine z_callV hX vX5_fails lX5_94 dX5_reads_14 zs_47 rfl (mX5_fails  hq) (by decide) rfl rfl (Nat.le_of_ble_eq_true rfl) 17 rfl (Qi.to (fun v' M' hv => ?_))
    cases hv
    refine z_if_eq hX dX5_reads_17 24 20 (by decide) rfl (fun hc => ?_) (fun hc => ?_)
    · rw [if_pos hc] at h5_
      refine z_iconst hX dX5_reads_24 qi_0 25 rfl ?_
      exact z_zreturn hX dX5_reads_25 (by decide) (zend_i h5_)
    · rw [if_neg hc] at h5_
      refine z_iconst hX dX5_reads_20 qi_1 21 rfl ?_
      refine z_goto hX dX5_reads_21 25 (by decide) ?_
      exact z_zreturn hX dX5_reads_25 (by decide) (zend_i h5_)
def gX9_find_L2 (a0 : Nat) (n0 : Nat) (x1 : Int32) (x2 : Int32) (M : zM) (rc2 : Int32 → Option Int32) (s : Int32) : Option Int32 :=
  (if x1 ≤ s then some (-1)
  else (if (Int32.ofNat n0) ≤ s then some (-1)
  else zg (zok s n0) ((if (M.1 a0 (s : Int32).toNatClampNeg) = x2 then some s
  else rc2 (s + 1)))))
set_option maxRecDepth 100000 in
set_option maxHeartbeats 2000000 in
theorem aX9_find_L2 {G : zG} {X : zX} {a0 : Nat} {n0 : Nat} {x1 : Int32} {x2 : Int32} (hX : zC G X cX9_find 4 RX9 (some .int) 1) (ha0 : zs a0 = .inr (0, n0)) (hn0 : 0 < n0)  {M : zM} {res : Int32}  : ∀ (N : Nat) (s : Int32), zfix N (gX9_find_L2 a0 n0 x1 x2 M) s = some res → Z G X (zQip M res) 2 [some (.ref a0), some (.int x1), some (.int x2), some (.int s)] [] M := by
  intro N
  induction N with
  | zero => intro s h; cases h
  | succ N hrc2 =>
    intro s h
    replace h : gX9_find_L2 a0 n0 x1 x2 M (zfix N (gX9_find_L2 a0 n0 x1 x2 M)) s = some res := h
    unfold gX9_find_L2 at h
    refine z_iload_n hX dX9_find_2 rfl 3 rfl ?_
    refine z_iload_n hX dX9_find_3 rfl 4 rfl ?_
    refine z_icmp_ge hX dX9_find_4 28 7 (by decide) rfl (fun hc => ?_) (fun hc => ?_)
    · rw [if_pos hc] at h
      refine z_iconst hX dX9_find_28 qi_m1 29 rfl ?_
      exact z_ireturn hX dX9_find_29 (zend_ip h)
    · rw [if_neg hc] at h
      refine z_iload_n hX dX9_find_7 rfl 8 rfl ?_
      refine z_aload_n hX dX9_find_8 rfl 9 rfl ?_
      refine z_alen (v := (Int32.ofNat n0)) hX dX9_find_9 ha0 hn0 (by decide) rfl 10 rfl ?_
      refine z_icmp_ge hX dX9_find_10 28 13 (by decide) rfl (fun hc => ?_) (fun hc => ?_)
      · rw [if_pos hc] at h
        refine z_iconst hX dX9_find_28 qi_m1 29 rfl ?_
        exact z_ireturn hX dX9_find_29 (zend_ip h)
      · rw [if_neg hc] at h
        refine z_aload_n hX dX9_find_13 rfl 14 rfl ?_
        refine z_iload_n hX dX9_find_14 rfl 15 rfl ?_
        obtain ⟨hb, h1_⟩ := zgd h
        refine z_iald hX dX9_find_15 ha0 (zok_in hb) 16 rfl ?_
        refine z_iload_n hX dX9_find_16 rfl 17 rfl ?_
        refine z_icmp_ne hX dX9_find_17 22 20 (by decide) rfl (fun hc => ?_) (fun hc => ?_)
        · rw [if_neg hc] at h1_
          refine z_iinc (v := (s + 1)) hX dX9_find_22 rfl (by rfl) (by decide) 25 rfl ?_
          refine z_goto hX dX9_find_25 2 (by decide) ?_
          refine z_mask [true, true, true, true] ?_
          have hz := hrc2 _ h1_
          exact hz
        · rw [if_pos hc] at h1_
          refine z_iload_n hX dX9_find_20 rfl 21 rfl ?_
          exact z_ireturn hX dX9_find_21 (zend_ip h1_)
def gX9_find (a0 : Nat) (n0 : Nat) (x1 : Int32) (x2 : Int32) (M : zM) : Option Int32 :=
  zfix zFu (gX9_find_L2 a0 n0 x1 x2 M) 0
set_option maxRecDepth 100000 in
set_option maxHeartbeats 2000000 in
theorem mX9_find {G : zG} {a0 : Nat} {n0 : Nat} {x1 : Int32} {x2 : Int32} {M : zM} (ha0 : zs a0 = .inr (0, n0)) (hn0 : 0 < n0) {res : Int32} (h : gX9_find a0 n0 x1 x2 M = some res) : Ct G 1 tX9_find [.ref a0, .int x1, .int x2] M (zQip M res) := by
  unfold gX9_find at h
  refine Ct.of (y := yX9_find) rfl plX9 (Nat.le_of_ble_eq_true rfl) (fun X hX => ?_)
  replace hX : zC G X cX9_find 4 RX9 (some .int) 1 := hX
  show Z G X _ 0 [some (.ref a0), some (.int x1), some (.int x2), none] [] M
  refine z_iconst hX dX9_find_0 qi_0 1 rfl ?_
  refine z_istore_n hX dX9_find_1 (by decide) 2 rfl ?_
  refine z_mask [true, true, true, true] ?_
  have hz := aX9_find_L2 hX ha0 hn0 _ _ h
  exact hz
def gX5_readsNewName (a1 : Nat) (n1 : Nat) (x2 : Int32) (M : zM) : Option (Int32 × zM) :=
  zcIM (gX5_reads 2 M) (fun v1_ M2_ => (if v1_ = 0 then some (0, M2_)
  else zcI (gX9_find a1 n1 x2 (M2_.1 47 7) M2_) (fun v4_ => (if v4_ < 0 then some (1, M2_)
  else zcIM (gX5_fails 3 M2_) (fun v6_ M7_ => (if v6_ = 0 then some (0, M7_)
  else some (1, M7_)))))))
set_option maxRecDepth 100000 in
set_option maxHeartbeats 2000000 in
theorem mX5_readsNewName {G : zG} {a1 : Nat} {n1 : Nat} {x2 : Int32} {M : zM} (ha1 : zs a1 = .inr (0, n1)) (hn1 : 0 < n1) {res : (Int32 × zM)} (h : gX5_readsNewName a1 n1 x2 M = some res) : Ct G 3 tX5_readsNewName [.ref 47, .ref a1, .int x2] M (zQi res) := by
  unfold gX5_readsNewName at h
  refine Ct.of (y := yX5_readsNewName) rfl plX5 (Nat.le_of_ble_eq_true rfl) (fun X hX => ?_)
  replace hX : zC G X cX5_readsNewName 3 RX5 (some .boolean) 3 := hX
  show Z G X _ 0 [some (.ref 47), some (.ref a1), some (.int x2)] [] M
  refine z_aload_n hX dX5_readsNewName_0 rfl 1 rfl ?_
  refine z_iconst hX dX5_readsNewName_1 qi_2 2 rfl ?_
  obtain ⟨v1_, M2_, hq, h3_⟩ := zcIM_of h
  refine z_callV hX vX5_reads lX5_97 dX5_readsNewName_2 zs_47 rfl (mX5_reads  hq) (by decide) rfl rfl (Nat.le_of_ble_eq_true rfl) 5 rfl (Qi.to (fun v' M' hv => ?_))
  cases hv
  refine z_if_ne hX dX5_readsNewName_5 10 8 (by decide) rfl (fun hc => ?_) (fun hc => ?_)
  · rw [if_neg hc] at h3_
    refine z_aload_n hX dX5_readsNewName_10 rfl 11 rfl ?_
    refine z_iload_n hX dX5_readsNewName_11 rfl 12 rfl ?_
    refine z_aload_n hX dX5_readsNewName_12 rfl 13 rfl ?_
    refine z_getI hX fX5_73 dX5_readsNewName_13 zs_47 (by decide) rfl 16 rfl ?_
    obtain ⟨v4_, hq, h5_⟩ := zcI_of h3_
    refine z_callSN (host := "ColdFeet") hX vX9_find (by decide +kernel) dX5_readsNewName_16 (mX9_find ha1 hn1 hq) (by decide) rfl rfl (Nat.le_of_ble_eq_true rfl) 19 rfl (Qi.to (fun v' M' hv => ?_))
    obtain ⟨rfl, rfl⟩ := hv
    refine z_if_lt hX dX5_readsNewName_19 30 22 (by decide) rfl (fun hc => ?_) (fun hc => ?_)
    · rw [if_pos hc] at h5_
      refine z_iconst hX dX5_readsNewName_30 qi_1 31 rfl ?_
      refine z_goto hX dX5_readsNewName_31 35 (by decide) ?_
      exact z_zreturn hX dX5_readsNewName_35 (by decide) (zend_i h5_)
    · rw [if_neg hc] at h5_
      refine z_aload_n hX dX5_readsNewName_22 rfl 23 rfl ?_
      refine z_iconst hX dX5_readsNewName_23 qi_3 24 rfl ?_
      obtain ⟨v6_, M7_, hq, h8_⟩ := zcIM_of h5_
      refine z_callV hX vX5_fails lX5_94 dX5_readsNewName_24 zs_47 rfl (mX5_fails  hq) (by decide) rfl rfl (Nat.le_of_ble_eq_true rfl) 27 rfl (Qi.to (fun v' M' hv => ?_))
      cases hv
      refine z_if_eq hX dX5_readsNewName_27 34 30 (by decide) rfl (fun hc => ?_) (fun hc => ?_)
      · rw [if_pos hc] at h8_
        refine z_iconst hX dX5_readsNewName_34 qi_0 35 rfl ?_
        exact z_zreturn hX dX5_readsNewName_35 (by decide) (zend_i h8_)
      · rw [if_neg hc] at h8_
        refine z_iconst hX dX5_readsNewName_30 qi_1 31 rfl ?_
        refine z_goto hX dX5_readsNewName_31 35 (by decide) ?_
        exact z_zreturn hX dX5_readsNewName_35 (by decide) (zend_i h8_)
  · rw [if_pos hc] at h3_
    refine z_iconst hX dX5_readsNewName_8 qi_0 9 rfl ?_
    exact z_zreturn hX dX5_readsNewName_9 (by decide) (zend_i h3_)
def gX5_readsNumber_J26 (M : zM) : Option (Int32 × zM) :=
  zcIM (gX5_fails 2 M) (fun v4_ M5_ => (if v4_ = 0 then some (0, M5_)
  else some (1, M5_)))
set_option maxRecDepth 100000 in
set_option maxHeartbeats 2000000 in
theorem aX5_readsNumber_J26 {G : zG} {X : zX} (hX : zC G X cX5_readsNumber 3 RX5 (some .boolean) 3)   {M : zM} {res : (Int32 × zM)}  (h : gX5_readsNumber_J26 M = some res) : Z G X (zQi res) 26 [some (.ref 47), none, none] [] M := by
  unfold gX5_readsNumber_J26 at h
  refine z_aload_n hX dX5_readsNumber_26 rfl 27 rfl ?_
  refine z_iconst hX dX5_readsNumber_27 qi_2 28 rfl ?_
  obtain ⟨v4_, M5_, hq, h6_⟩ := zcIM_of h
  refine z_callV hX vX5_fails lX5_94 dX5_readsNumber_28 zs_47 rfl (mX5_fails  hq) (by decide) rfl rfl (Nat.le_of_ble_eq_true rfl) 31 rfl (Qi.to (fun v' M' hv => ?_))
  cases hv
  refine z_if_eq hX dX5_readsNumber_31 38 34 (by decide) rfl (fun hc => ?_) (fun hc => ?_)
  · rw [if_pos hc] at h6_
    refine z_iconst hX dX5_readsNumber_38 qi_0 39 rfl ?_
    exact z_zreturn hX dX5_readsNumber_39 (by decide) (zend_i h6_)
  · rw [if_neg hc] at h6_
    refine z_iconst hX dX5_readsNumber_34 qi_1 35 rfl ?_
    refine z_goto hX dX5_readsNumber_35 39 (by decide) ?_
    exact z_zreturn hX dX5_readsNumber_39 (by decide) (zend_i h6_)
def gX5_readsNumber (x1 : Int32) (x2 : Int32) (M : zM) : Option (Int32 × zM) :=
  zcIM (gX5_reads 3 M) (fun v1_ M2_ => (if v1_ = 0 then some (0, M2_)
  else (if (M2_.1 47 7) < x1 then gX5_readsNumber_J26 M2_
  else (if (M2_.1 47 7) ≤ x2 then some (1, M2_)
  else gX5_readsNumber_J26 M2_))))
set_option maxRecDepth 100000 in
set_option maxHeartbeats 2000000 in
theorem mX5_readsNumber {G : zG} {x1 : Int32} {x2 : Int32} {M : zM}  {res : (Int32 × zM)} (h : gX5_readsNumber x1 x2 M = some res) : Ct G 3 tX5_readsNumber [.ref 47, .int x1, .int x2] M (zQi res) := by
  unfold gX5_readsNumber at h
  refine Ct.of (y := yX5_readsNumber) rfl plX5 (Nat.le_of_ble_eq_true rfl) (fun X hX => ?_)
  replace hX : zC G X cX5_readsNumber 3 RX5 (some .boolean) 3 := hX
  show Z G X _ 0 [some (.ref 47), some (.int x1), some (.int x2)] [] M
  refine z_aload_n hX dX5_readsNumber_0 rfl 1 rfl ?_
  refine z_iconst hX dX5_readsNumber_1 qi_3 2 rfl ?_
  obtain ⟨v1_, M2_, hq, h3_⟩ := zcIM_of h
  refine z_callV hX vX5_reads lX5_97 dX5_readsNumber_2 zs_47 rfl (mX5_reads  hq) (by decide) rfl rfl (Nat.le_of_ble_eq_true rfl) 5 rfl (Qi.to (fun v' M' hv => ?_))
  cases hv
  refine z_if_ne hX dX5_readsNumber_5 10 8 (by decide) rfl (fun hc => ?_) (fun hc => ?_)
  · rw [if_neg hc] at h3_
    refine z_aload_n hX dX5_readsNumber_10 rfl 11 rfl ?_
    refine z_getI hX fX5_73 dX5_readsNumber_11 zs_47 (by decide) rfl 14 rfl ?_
    refine z_iload_n hX dX5_readsNumber_14 rfl 15 rfl ?_
    refine z_icmp_lt hX dX5_readsNumber_15 26 18 (by decide) rfl (fun hc => ?_) (fun hc => ?_)
    · rw [if_pos hc] at h3_
      refine z_mask [true, false, false] ?_
      have hz := aX5_readsNumber_J26 hX h3_
      exact hz
    · rw [if_neg hc] at h3_
      refine z_aload_n hX dX5_readsNumber_18 rfl 19 rfl ?_
      refine z_getI hX fX5_73 dX5_readsNumber_19 zs_47 (by decide) rfl 22 rfl ?_
      refine z_iload_n hX dX5_readsNumber_22 rfl 23 rfl ?_
      refine z_icmp_le hX dX5_readsNumber_23 34 26 (by decide) rfl (fun hc => ?_) (fun hc => ?_)
      · rw [if_pos hc] at h3_
        refine z_iconst hX dX5_readsNumber_34 qi_1 35 rfl ?_
        refine z_goto hX dX5_readsNumber_35 39 (by decide) ?_
        exact z_zreturn hX dX5_readsNumber_39 (by decide) (zend_i h3_)
      · rw [if_neg hc] at h3_
        refine z_mask [true, false, false] ?_
        have hz := aX5_readsNumber_J26 hX h3_
        exact hz
  · rw [if_pos hc] at h3_
    refine z_iconst hX dX5_readsNumber_8 qi_0 9 rfl ?_
    exact z_zreturn hX dX5_readsNumber_9 (by decide) (zend_i h3_)
def gX5_readMan_J18 (M : zM) : Option (Int32 × zM) :=
  zcIM (gX5_fails 2 M) (fun v3_ M4_ => zg (zbit v3_) (some (v3_, M4_)))
set_option maxRecDepth 100000 in
set_option maxHeartbeats 2000000 in
theorem aX5_readMan_J18 {G : zG} {X : zX} (hX : zC G X cX5_readMan 2 RX5 (some .boolean) 4)   {M : zM} {res : (Int32 × zM)}  (h : gX5_readMan_J18 M = some res) : Z G X (zQi res) 18 [some (.ref 47), none] [] M := by
  unfold gX5_readMan_J18 at h
  refine z_aload_n hX dX5_readMan_18 rfl 19 rfl ?_
  refine z_iconst hX dX5_readMan_19 qi_2 20 rfl ?_
  obtain ⟨v3_, M4_, hq, h5_⟩ := zcIM_of h
  refine z_callV hX vX5_fails lX5_94 dX5_readMan_20 zs_47 rfl (mX5_fails  hq) (by decide) rfl rfl (Nat.le_of_ble_eq_true rfl) 23 rfl (Qi.to (fun v' M' hv => ?_))
  cases hv
  obtain ⟨hb, h6_⟩ := zgd h5_
  exact z_zreturn hX dX5_readMan_23 (zbit_or hb) (zend_i h6_)
def gX5_readMan (M : zM) : Option (Int32 × zM) :=
  zgP (M.2.2 47 3) (fun p1_ => (if (M.1 p1_ 0) < 0 then gX5_readMan_J18 M
  else (if (M.1 p1_ 0) < 6 then zgP (M.2.2 47 3) (fun p7_ => zcIM (gX5_readsNewName (p7_ + 1) 6 (M.1 p1_ 0) M) (fun v9_ M10_ => (if v9_ = 0 then some (0, M10_)
  else zgP (M10_.2.2 47 3) (fun p12_ => zg (zok (M.1 p1_ 0) 6) (zlet (zI M10_ (p12_ + 1) ((M.1 p1_ 0) : Int32).toNatClampNeg (M10_.1 47 7)) (fun M15_ => zcIM (gX5_readsNumber 0 99 M15_) (fun v17_ M18_ => (if v17_ = 0 then some (0, M18_)
  else zgP (M18_.2.2 47 3) (fun p20_ => zg (zok (M.1 p1_ 0) 6) (zlet (zI M18_ (p20_ + 2) ((M.1 p1_ 0) : Int32).toNatClampNeg (M18_.1 47 7)) (fun M23_ => zcIM (gX5_readsNumber 0 99 M23_) (fun v25_ M26_ => (if v25_ = 0 then some (0, M26_)
  else zgP (M26_.2.2 47 3) (fun p28_ => zg (zok (M.1 p1_ 0) 6) (zlet (zI M26_ (p28_ + 3) ((M.1 p1_ 0) : Int32).toNatClampNeg (M26_.1 47 7)) (fun M31_ => zcIM (gX5_readsNumber 1 9 M31_) (fun v33_ M34_ => (if v33_ = 0 then some (0, M34_)
  else zgP (M34_.2.2 47 3) (fun p36_ => zg (zok (M.1 p1_ 0) 6) (zlet (zI M34_ (p36_ + 4) ((M.1 p1_ 0) : Int32).toNatClampNeg (M34_.1 47 7)) (fun M39_ => zgP (M39_.2.2 47 3) (fun p41_ => zlet (zI M39_ p41_ 0 ((M39_.1 p41_ 0) + 1)) (fun M43_ => zcIM (gX5_reads 4 M43_) (fun v45_ M46_ => zg (zbit v45_) (some (v45_, M46_))))))))))))))))))))))))))
  else gX5_readMan_J18 M)))
set_option maxRecDepth 100000 in
set_option maxHeartbeats 2000000 in
theorem mX5_readMan {G : zG}  {M : zM}  {res : (Int32 × zM)} (h : gX5_readMan M = some res) : Ct G 4 tX5_readMan [.ref 47] M (zQi res) := by
  unfold gX5_readMan at h
  refine Ct.of (y := yX5_readMan) rfl plX5 (Nat.le_of_ble_eq_true rfl) (fun X hX => ?_)
  replace hX : zC G X cX5_readMan 2 RX5 (some .boolean) 4 := hX
  show Z G X _ 0 [some (.ref 47), none] [] M
  refine z_aload_n hX dX5_readMan_0 rfl 1 rfl ?_
  obtain ⟨p1_, hm, hp1_, h2_⟩ := zgP_of h
  refine z_getR hX fX5_29 dX5_readMan_1 zs_47 (by decide) rfl hm 4 rfl ?_
  refine z_getI hX fX5_104 dX5_readMan_4 (zsP0 hp1_) (by decide) rfl 7 rfl ?_
  refine z_istore_n hX dX5_readMan_7 (by decide) 8 rfl ?_
  refine z_iload_n hX dX5_readMan_8 rfl 9 rfl ?_
  refine z_if_lt hX dX5_readMan_9 18 12 (by decide) rfl (fun hc => ?_) (fun hc => ?_)
  · rw [if_pos hc] at h2_
    refine z_mask [true, false] ?_
    have hz := aX5_readMan_J18 hX h2_
    exact hz
  · rw [if_neg hc] at h2_
    refine z_iload_n hX dX5_readMan_12 rfl 13 rfl ?_
    refine z_bipush hX dX5_readMan_13 qb_6 15 rfl ?_
    refine z_icmp_lt hX dX5_readMan_15 24 18 (by decide) rfl (fun hc => ?_) (fun hc => ?_)
    · rw [if_pos hc] at h2_
      refine z_aload_n hX dX5_readMan_24 rfl 25 rfl ?_
      refine z_aload_n hX dX5_readMan_25 rfl 26 rfl ?_
      obtain ⟨p7_, hm, hp7_, h8_⟩ := zgP_of h2_
      refine z_getR hX fX5_29 dX5_readMan_26 zs_47 (by decide) rfl hm 29 rfl ?_
      refine z_getF hX fX5_107 dX5_readMan_29 (zsP0 hp7_) (by decide) rfl 32 rfl ?_
      refine z_iload_n hX dX5_readMan_32 rfl 33 rfl ?_
      obtain ⟨v9_, M10_, hq, h11_⟩ := zcIM_of h8_
      refine z_callV hX vX5_readsNewName lX5_110 dX5_readMan_33 zs_47 rfl (mX5_readsNewName (zsP1 hp7_) (by decide) hq) (by decide) rfl rfl (Nat.le_of_ble_eq_true rfl) 36 rfl (Qi.to (fun v' M' hv => ?_))
      cases hv
      refine z_if_ne hX dX5_readMan_36 41 39 (by decide) rfl (fun hc => ?_) (fun hc => ?_)
      · rw [if_neg hc] at h11_
        refine z_aload_n hX dX5_readMan_41 rfl 42 rfl ?_
        obtain ⟨p12_, hm, hp12_, h13_⟩ := zgP_of h11_
        refine z_getR hX fX5_29 dX5_readMan_42 zs_47 (by decide) rfl hm 45 rfl ?_
        refine z_getF hX fX5_107 dX5_readMan_45 (zsP0 hp12_) (by decide) rfl 48 rfl ?_
        refine z_iload_n hX dX5_readMan_48 rfl 49 rfl ?_
        refine z_aload_n hX dX5_readMan_49 rfl 50 rfl ?_
        refine z_getI hX fX5_73 dX5_readMan_50 zs_47 (by decide) rfl 53 rfl ?_
        obtain ⟨hb, h14_⟩ := zgd h13_
        refine z_iast hX dX5_readMan_53 (zsP1 hp12_) (zok_in hb) 54 rfl ?_
        refine z_mem h14_ (fun M15_ h16_ => ?_)
        refine z_aload_n hX dX5_readMan_54 rfl 55 rfl ?_
        refine z_iconst hX dX5_readMan_55 qi_0 56 rfl ?_
        refine z_bipush hX dX5_readMan_56 qb_99 58 rfl ?_
        obtain ⟨v17_, M18_, hq, h19_⟩ := zcIM_of h16_
        refine z_callV hX vX5_readsNumber lX5_114 dX5_readMan_58 zs_47 rfl (mX5_readsNumber  hq) (by decide) rfl rfl (Nat.le_of_ble_eq_true rfl) 61 rfl (Qi.to (fun v' M' hv => ?_))
        cases hv
        refine z_if_ne hX dX5_readMan_61 66 64 (by decide) rfl (fun hc => ?_) (fun hc => ?_)
        · rw [if_neg hc] at h19_
          refine z_aload_n hX dX5_readMan_66 rfl 67 rfl ?_
          obtain ⟨p20_, hm, hp20_, h21_⟩ := zgP_of h19_
          refine z_getR hX fX5_29 dX5_readMan_67 zs_47 (by decide) rfl hm 70 rfl ?_
          refine z_getF hX fX5_118 dX5_readMan_70 (zsP0 hp20_) (by decide) rfl 73 rfl ?_
          refine z_iload_n hX dX5_readMan_73 rfl 74 rfl ?_
          refine z_aload_n hX dX5_readMan_74 rfl 75 rfl ?_
          refine z_getI hX fX5_73 dX5_readMan_75 zs_47 (by decide) rfl 78 rfl ?_
          obtain ⟨hb, h22_⟩ := zgd h21_
          refine z_iast hX dX5_readMan_78 (zsP2 hp20_) (zok_in hb) 79 rfl ?_
          refine z_mem h22_ (fun M23_ h24_ => ?_)
          refine z_aload_n hX dX5_readMan_79 rfl 80 rfl ?_
          refine z_iconst hX dX5_readMan_80 qi_0 81 rfl ?_
          refine z_bipush hX dX5_readMan_81 qb_99 83 rfl ?_
          obtain ⟨v25_, M26_, hq, h27_⟩ := zcIM_of h24_
          refine z_callV hX vX5_readsNumber lX5_114 dX5_readMan_83 zs_47 rfl (mX5_readsNumber  hq) (by decide) rfl rfl (Nat.le_of_ble_eq_true rfl) 86 rfl (Qi.to (fun v' M' hv => ?_))
          cases hv
          refine z_if_ne hX dX5_readMan_86 91 89 (by decide) rfl (fun hc => ?_) (fun hc => ?_)
          · rw [if_neg hc] at h27_
            refine z_aload_n hX dX5_readMan_91 rfl 92 rfl ?_
            obtain ⟨p28_, hm, hp28_, h29_⟩ := zgP_of h27_
            refine z_getR hX fX5_29 dX5_readMan_92 zs_47 (by decide) rfl hm 95 rfl ?_
            refine z_getF hX fX5_121 dX5_readMan_95 (zsP0 hp28_) (by decide) rfl 98 rfl ?_
            refine z_iload_n hX dX5_readMan_98 rfl 99 rfl ?_
            refine z_aload_n hX dX5_readMan_99 rfl 100 rfl ?_
            refine z_getI hX fX5_73 dX5_readMan_100 zs_47 (by decide) rfl 103 rfl ?_
            obtain ⟨hb, h30_⟩ := zgd h29_
            refine z_iast hX dX5_readMan_103 (zsP3 hp28_) (zok_in hb) 104 rfl ?_
            refine z_mem h30_ (fun M31_ h32_ => ?_)
            refine z_aload_n hX dX5_readMan_104 rfl 105 rfl ?_
            refine z_iconst hX dX5_readMan_105 qi_1 106 rfl ?_
            refine z_bipush hX dX5_readMan_106 qb_9 108 rfl ?_
            obtain ⟨v33_, M34_, hq, h35_⟩ := zcIM_of h32_
            refine z_callV hX vX5_readsNumber lX5_114 dX5_readMan_108 zs_47 rfl (mX5_readsNumber  hq) (by decide) rfl rfl (Nat.le_of_ble_eq_true rfl) 111 rfl (Qi.to (fun v' M' hv => ?_))
            cases hv
            refine z_if_ne hX dX5_readMan_111 116 114 (by decide) rfl (fun hc => ?_) (fun hc => ?_)
            · rw [if_neg hc] at h35_
              refine z_aload_n hX dX5_readMan_116 rfl 117 rfl ?_
              obtain ⟨p36_, hm, hp36_, h37_⟩ := zgP_of h35_
              refine z_getR hX fX5_29 dX5_readMan_117 zs_47 (by decide) rfl hm 120 rfl ?_
              refine z_getF hX fX5_124 dX5_readMan_120 (zsP0 hp36_) (by decide) rfl 123 rfl ?_
              refine z_iload_n hX dX5_readMan_123 rfl 124 rfl ?_
              refine z_aload_n hX dX5_readMan_124 rfl 125 rfl ?_
              refine z_getI hX fX5_73 dX5_readMan_125 zs_47 (by decide) rfl 128 rfl ?_
              obtain ⟨hb, h38_⟩ := zgd h37_
              refine z_iast hX dX5_readMan_128 (zsP4 hp36_) (zok_in hb) 129 rfl ?_
              refine z_mem h38_ (fun M39_ h40_ => ?_)
              refine z_aload_n hX dX5_readMan_129 rfl 130 rfl ?_
              obtain ⟨p41_, hm, hp41_, h42_⟩ := zgP_of h40_
              refine z_getR hX fX5_29 dX5_readMan_130 zs_47 (by decide) rfl hm 133 rfl ?_
              refine z_dup hX dX5_readMan_133 rfl 134 rfl ?_
              refine z_getI hX fX5_104 dX5_readMan_134 (zsP0 hp41_) (by decide) rfl 137 rfl ?_
              refine z_iconst hX dX5_readMan_137 qi_1 138 rfl ?_
              refine z_iadd hX dX5_readMan_138 139 rfl ?_
              refine z_putI hX pX5_104 dX5_readMan_139 (zsP0 hp41_) (by decide) rfl 142 rfl ?_
              refine z_mem h42_ (fun M43_ h44_ => ?_)
              refine z_aload_n hX dX5_readMan_142 rfl 143 rfl ?_
              refine z_iconst hX dX5_readMan_143 qi_4 144 rfl ?_
              obtain ⟨v45_, M46_, hq, h47_⟩ := zcIM_of h44_
              refine z_callV hX vX5_reads lX5_97 dX5_readMan_144 zs_47 rfl (mX5_reads  hq) (by decide) rfl rfl (Nat.le_of_ble_eq_true rfl) 147 rfl (Qi.to (fun v' M' hv => ?_))
              cases hv
              obtain ⟨hb, h48_⟩ := zgd h47_
              exact z_zreturn hX dX5_readMan_147 (zbit_or hb) (zend_i h48_)
            · rw [if_pos hc] at h35_
              refine z_iconst hX dX5_readMan_114 qi_0 115 rfl ?_
              exact z_zreturn hX dX5_readMan_115 (by decide) (zend_i h35_)
          · rw [if_pos hc] at h27_
            refine z_iconst hX dX5_readMan_89 qi_0 90 rfl ?_
            exact z_zreturn hX dX5_readMan_90 (by decide) (zend_i h27_)
        · rw [if_pos hc] at h19_
          refine z_iconst hX dX5_readMan_64 qi_0 65 rfl ?_
          exact z_zreturn hX dX5_readMan_65 (by decide) (zend_i h19_)
      · rw [if_pos hc] at h11_
        refine z_iconst hX dX5_readMan_39 qi_0 40 rfl ?_
        exact z_zreturn hX dX5_readMan_40 (by decide) (zend_i h11_)
    · rw [if_neg hc] at h2_
      refine z_mask [true, false] ?_
      have hz := aX5_readMan_J18 hX h2_
      exact hz
def gX5_readThing_J18 (M : zM) : Option (Int32 × zM) :=
  zcIM (gX5_fails 2 M) (fun v3_ M4_ => zg (zbit v3_) (some (v3_, M4_)))
set_option maxRecDepth 100000 in
set_option maxHeartbeats 2000000 in
theorem aX5_readThing_J18 {G : zG} {X : zX} (hX : zC G X cX5_readThing 2 RX5 (some .boolean) 4)   {M : zM} {res : (Int32 × zM)}  (h : gX5_readThing_J18 M = some res) : Z G X (zQi res) 18 [some (.ref 47), none] [] M := by
  unfold gX5_readThing_J18 at h
  refine z_aload_n hX dX5_readThing_18 rfl 19 rfl ?_
  refine z_iconst hX dX5_readThing_19 qi_2 20 rfl ?_
  obtain ⟨v3_, M4_, hq, h5_⟩ := zcIM_of h
  refine z_callV hX vX5_fails lX5_94 dX5_readThing_20 zs_47 rfl (mX5_fails  hq) (by decide) rfl rfl (Nat.le_of_ble_eq_true rfl) 23 rfl (Qi.to (fun v' M' hv => ?_))
  cases hv
  obtain ⟨hb, h6_⟩ := zgd h5_
  exact z_zreturn hX dX5_readThing_23 (zbit_or hb) (zend_i h6_)
def gX5_readThing (M : zM) : Option (Int32 × zM) :=
  zgP (M.2.2 47 3) (fun p1_ => (if (M.1 p1_ 5) < 0 then gX5_readThing_J18 M
  else (if (M.1 p1_ 5) < 8 then zgP (M.2.2 47 3) (fun p7_ => zcIM (gX5_readsNewName (p7_ + 5) 8 (M.1 p1_ 5) M) (fun v9_ M10_ => (if v9_ = 0 then some (0, M10_)
  else zgP (M10_.2.2 47 3) (fun p12_ => zg (zok (M.1 p1_ 5) 8) (zlet (zI M10_ (p12_ + 5) ((M.1 p1_ 5) : Int32).toNatClampNeg (M10_.1 47 7)) (fun M15_ => zcIM (gX5_readsNumber 1 99 M15_) (fun v17_ M18_ => (if v17_ = 0 then some (0, M18_)
  else zgP (M18_.2.2 47 3) (fun p20_ => zg (zok (M.1 p1_ 5) 8) (zlet (zI M18_ (p20_ + 6) ((M.1 p1_ 5) : Int32).toNatClampNeg (M18_.1 47 7)) (fun M23_ => zcIM (gX5_readsNumber 1 6 M23_) (fun v25_ M26_ => (if v25_ = 0 then some (0, M26_)
  else zgP (M26_.2.2 47 3) (fun p28_ => zg (zok (M.1 p1_ 5) 8) (zlet (zI M26_ (p28_ + 7) ((M.1 p1_ 5) : Int32).toNatClampNeg (M26_.1 47 7)) (fun M31_ => zcIM (gX5_readsNumber 0 99 M31_) (fun v33_ M34_ => (if v33_ = 0 then some (0, M34_)
  else zgP (M34_.2.2 47 3) (fun p36_ => zg (zok (M.1 p1_ 5) 8) (zlet (zI M34_ (p36_ + 8) ((M.1 p1_ 5) : Int32).toNatClampNeg (M34_.1 47 7)) (fun M39_ => zgP (M39_.2.2 47 3) (fun p41_ => zlet (zI M39_ p41_ 5 ((M39_.1 p41_ 5) + 1)) (fun M43_ => zcIM (gX5_reads 4 M43_) (fun v45_ M46_ => zg (zbit v45_) (some (v45_, M46_))))))))))))))))))))))))))
  else gX5_readThing_J18 M)))
set_option maxRecDepth 100000 in
set_option maxHeartbeats 2000000 in
theorem mX5_readThing {G : zG}  {M : zM}  {res : (Int32 × zM)} (h : gX5_readThing M = some res) : Ct G 4 tX5_readThing [.ref 47] M (zQi res) := by
  unfold gX5_readThing at h
  refine Ct.of (y := yX5_readThing) rfl plX5 (Nat.le_of_ble_eq_true rfl) (fun X hX => ?_)
  replace hX : zC G X cX5_readThing 2 RX5 (some .boolean) 4 := hX
  show Z G X _ 0 [some (.ref 47), none] [] M
  refine z_aload_n hX dX5_readThing_0 rfl 1 rfl ?_
  obtain ⟨p1_, hm, hp1_, h2_⟩ := zgP_of h
  refine z_getR hX fX5_29 dX5_readThing_1 zs_47 (by decide) rfl hm 4 rfl ?_
  refine z_getI hX fX5_127 dX5_readThing_4 (zsP0 hp1_) (by decide) rfl 7 rfl ?_
  refine z_istore_n hX dX5_readThing_7 (by decide) 8 rfl ?_
  refine z_iload_n hX dX5_readThing_8 rfl 9 rfl ?_
  refine z_if_lt hX dX5_readThing_9 18 12 (by decide) rfl (fun hc => ?_) (fun hc => ?_)
  · rw [if_pos hc] at h2_
    refine z_mask [true, false] ?_
    have hz := aX5_readThing_J18 hX h2_
    exact hz
  · rw [if_neg hc] at h2_
    refine z_iload_n hX dX5_readThing_12 rfl 13 rfl ?_
    refine z_bipush hX dX5_readThing_13 qb_8 15 rfl ?_
    refine z_icmp_lt hX dX5_readThing_15 24 18 (by decide) rfl (fun hc => ?_) (fun hc => ?_)
    · rw [if_pos hc] at h2_
      refine z_aload_n hX dX5_readThing_24 rfl 25 rfl ?_
      refine z_aload_n hX dX5_readThing_25 rfl 26 rfl ?_
      obtain ⟨p7_, hm, hp7_, h8_⟩ := zgP_of h2_
      refine z_getR hX fX5_29 dX5_readThing_26 zs_47 (by decide) rfl hm 29 rfl ?_
      refine z_getF hX fX5_130 dX5_readThing_29 (zsP0 hp7_) (by decide) rfl 32 rfl ?_
      refine z_iload_n hX dX5_readThing_32 rfl 33 rfl ?_
      obtain ⟨v9_, M10_, hq, h11_⟩ := zcIM_of h8_
      refine z_callV hX vX5_readsNewName lX5_110 dX5_readThing_33 zs_47 rfl (mX5_readsNewName (zsP5 hp7_) (by decide) hq) (by decide) rfl rfl (Nat.le_of_ble_eq_true rfl) 36 rfl (Qi.to (fun v' M' hv => ?_))
      cases hv
      refine z_if_ne hX dX5_readThing_36 41 39 (by decide) rfl (fun hc => ?_) (fun hc => ?_)
      · rw [if_neg hc] at h11_
        refine z_aload_n hX dX5_readThing_41 rfl 42 rfl ?_
        obtain ⟨p12_, hm, hp12_, h13_⟩ := zgP_of h11_
        refine z_getR hX fX5_29 dX5_readThing_42 zs_47 (by decide) rfl hm 45 rfl ?_
        refine z_getF hX fX5_130 dX5_readThing_45 (zsP0 hp12_) (by decide) rfl 48 rfl ?_
        refine z_iload_n hX dX5_readThing_48 rfl 49 rfl ?_
        refine z_aload_n hX dX5_readThing_49 rfl 50 rfl ?_
        refine z_getI hX fX5_73 dX5_readThing_50 zs_47 (by decide) rfl 53 rfl ?_
        obtain ⟨hb, h14_⟩ := zgd h13_
        refine z_iast hX dX5_readThing_53 (zsP5 hp12_) (zok_in hb) 54 rfl ?_
        refine z_mem h14_ (fun M15_ h16_ => ?_)
        refine z_aload_n hX dX5_readThing_54 rfl 55 rfl ?_
        refine z_iconst hX dX5_readThing_55 qi_1 56 rfl ?_
        refine z_bipush hX dX5_readThing_56 qb_99 58 rfl ?_
        obtain ⟨v17_, M18_, hq, h19_⟩ := zcIM_of h16_
        refine z_callV hX vX5_readsNumber lX5_114 dX5_readThing_58 zs_47 rfl (mX5_readsNumber  hq) (by decide) rfl rfl (Nat.le_of_ble_eq_true rfl) 61 rfl (Qi.to (fun v' M' hv => ?_))
        cases hv
        refine z_if_ne hX dX5_readThing_61 66 64 (by decide) rfl (fun hc => ?_) (fun hc => ?_)
        · rw [if_neg hc] at h19_
          refine z_aload_n hX dX5_readThing_66 rfl 67 rfl ?_
          obtain ⟨p20_, hm, hp20_, h21_⟩ := zgP_of h19_
          refine z_getR hX fX5_29 dX5_readThing_67 zs_47 (by decide) rfl hm 70 rfl ?_
          refine z_getF hX fX5_133 dX5_readThing_70 (zsP0 hp20_) (by decide) rfl 73 rfl ?_
          refine z_iload_n hX dX5_readThing_73 rfl 74 rfl ?_
          refine z_aload_n hX dX5_readThing_74 rfl 75 rfl ?_
          refine z_getI hX fX5_73 dX5_readThing_75 zs_47 (by decide) rfl 78 rfl ?_
          obtain ⟨hb, h22_⟩ := zgd h21_
          refine z_iast hX dX5_readThing_78 (zsP6 hp20_) (zok_in hb) 79 rfl ?_
          refine z_mem h22_ (fun M23_ h24_ => ?_)
          refine z_aload_n hX dX5_readThing_79 rfl 80 rfl ?_
          refine z_iconst hX dX5_readThing_80 qi_1 81 rfl ?_
          refine z_bipush hX dX5_readThing_81 qb_6 83 rfl ?_
          obtain ⟨v25_, M26_, hq, h27_⟩ := zcIM_of h24_
          refine z_callV hX vX5_readsNumber lX5_114 dX5_readThing_83 zs_47 rfl (mX5_readsNumber  hq) (by decide) rfl rfl (Nat.le_of_ble_eq_true rfl) 86 rfl (Qi.to (fun v' M' hv => ?_))
          cases hv
          refine z_if_ne hX dX5_readThing_86 91 89 (by decide) rfl (fun hc => ?_) (fun hc => ?_)
          · rw [if_neg hc] at h27_
            refine z_aload_n hX dX5_readThing_91 rfl 92 rfl ?_
            obtain ⟨p28_, hm, hp28_, h29_⟩ := zgP_of h27_
            refine z_getR hX fX5_29 dX5_readThing_92 zs_47 (by decide) rfl hm 95 rfl ?_
            refine z_getF hX fX5_136 dX5_readThing_95 (zsP0 hp28_) (by decide) rfl 98 rfl ?_
            refine z_iload_n hX dX5_readThing_98 rfl 99 rfl ?_
            refine z_aload_n hX dX5_readThing_99 rfl 100 rfl ?_
            refine z_getI hX fX5_73 dX5_readThing_100 zs_47 (by decide) rfl 103 rfl ?_
            obtain ⟨hb, h30_⟩ := zgd h29_
            refine z_iast hX dX5_readThing_103 (zsP7 hp28_) (zok_in hb) 104 rfl ?_
            refine z_mem h30_ (fun M31_ h32_ => ?_)
            refine z_aload_n hX dX5_readThing_104 rfl 105 rfl ?_
            refine z_iconst hX dX5_readThing_105 qi_0 106 rfl ?_
            refine z_bipush hX dX5_readThing_106 qb_99 108 rfl ?_
            obtain ⟨v33_, M34_, hq, h35_⟩ := zcIM_of h32_
            refine z_callV hX vX5_readsNumber lX5_114 dX5_readThing_108 zs_47 rfl (mX5_readsNumber  hq) (by decide) rfl rfl (Nat.le_of_ble_eq_true rfl) 111 rfl (Qi.to (fun v' M' hv => ?_))
            cases hv
            refine z_if_ne hX dX5_readThing_111 116 114 (by decide) rfl (fun hc => ?_) (fun hc => ?_)
            · rw [if_neg hc] at h35_
              refine z_aload_n hX dX5_readThing_116 rfl 117 rfl ?_
              obtain ⟨p36_, hm, hp36_, h37_⟩ := zgP_of h35_
              refine z_getR hX fX5_29 dX5_readThing_117 zs_47 (by decide) rfl hm 120 rfl ?_
              refine z_getF hX fX5_139 dX5_readThing_120 (zsP0 hp36_) (by decide) rfl 123 rfl ?_
              refine z_iload_n hX dX5_readThing_123 rfl 124 rfl ?_
              refine z_aload_n hX dX5_readThing_124 rfl 125 rfl ?_
              refine z_getI hX fX5_73 dX5_readThing_125 zs_47 (by decide) rfl 128 rfl ?_
              obtain ⟨hb, h38_⟩ := zgd h37_
              refine z_iast hX dX5_readThing_128 (zsP8 hp36_) (zok_in hb) 129 rfl ?_
              refine z_mem h38_ (fun M39_ h40_ => ?_)
              refine z_aload_n hX dX5_readThing_129 rfl 130 rfl ?_
              obtain ⟨p41_, hm, hp41_, h42_⟩ := zgP_of h40_
              refine z_getR hX fX5_29 dX5_readThing_130 zs_47 (by decide) rfl hm 133 rfl ?_
              refine z_dup hX dX5_readThing_133 rfl 134 rfl ?_
              refine z_getI hX fX5_127 dX5_readThing_134 (zsP0 hp41_) (by decide) rfl 137 rfl ?_
              refine z_iconst hX dX5_readThing_137 qi_1 138 rfl ?_
              refine z_iadd hX dX5_readThing_138 139 rfl ?_
              refine z_putI hX pX5_127 dX5_readThing_139 (zsP0 hp41_) (by decide) rfl 142 rfl ?_
              refine z_mem h42_ (fun M43_ h44_ => ?_)
              refine z_aload_n hX dX5_readThing_142 rfl 143 rfl ?_
              refine z_iconst hX dX5_readThing_143 qi_4 144 rfl ?_
              obtain ⟨v45_, M46_, hq, h47_⟩ := zcIM_of h44_
              refine z_callV hX vX5_reads lX5_97 dX5_readThing_144 zs_47 rfl (mX5_reads  hq) (by decide) rfl rfl (Nat.le_of_ble_eq_true rfl) 147 rfl (Qi.to (fun v' M' hv => ?_))
              cases hv
              obtain ⟨hb, h48_⟩ := zgd h47_
              exact z_zreturn hX dX5_readThing_147 (zbit_or hb) (zend_i h48_)
            · rw [if_pos hc] at h35_
              refine z_iconst hX dX5_readThing_114 qi_0 115 rfl ?_
              exact z_zreturn hX dX5_readThing_115 (by decide) (zend_i h35_)
          · rw [if_pos hc] at h27_
            refine z_iconst hX dX5_readThing_89 qi_0 90 rfl ?_
            exact z_zreturn hX dX5_readThing_90 (by decide) (zend_i h27_)
        · rw [if_pos hc] at h19_
          refine z_iconst hX dX5_readThing_64 qi_0 65 rfl ?_
          exact z_zreturn hX dX5_readThing_65 (by decide) (zend_i h19_)
      · rw [if_pos hc] at h11_
        refine z_iconst hX dX5_readThing_39 qi_0 40 rfl ?_
        exact z_zreturn hX dX5_readThing_40 (by decide) (zend_i h11_)
    · rw [if_neg hc] at h2_
      refine z_mask [true, false] ?_
      have hz := aX5_readThing_J18 hX h2_
      exact hz
def gX5_readLook_J18 (M : zM) : Option (Int32 × zM) :=
  zcIM (gX5_fails 2 M) (fun v3_ M4_ => zg (zbit v3_) (some (v3_, M4_)))
set_option maxRecDepth 100000 in
set_option maxHeartbeats 2000000 in
theorem aX5_readLook_J18 {G : zG} {X : zX} (hX : zC G X cX5_readLook 3 RX5 (some .boolean) 4)   {M : zM} {res : (Int32 × zM)}  (h : gX5_readLook_J18 M = some res) : Z G X (zQi res) 18 [some (.ref 47), none, none] [] M := by
  unfold gX5_readLook_J18 at h
  refine z_aload_n hX dX5_readLook_18 rfl 19 rfl ?_
  refine z_iconst hX dX5_readLook_19 qi_2 20 rfl ?_
  obtain ⟨v3_, M4_, hq, h5_⟩ := zcIM_of h
  refine z_callV hX vX5_fails lX5_94 dX5_readLook_20 zs_47 rfl (mX5_fails  hq) (by decide) rfl rfl (Nat.le_of_ble_eq_true rfl) 23 rfl (Qi.to (fun v' M' hv => ?_))
  cases hv
  obtain ⟨hb, h6_⟩ := zgd h5_
  exact z_zreturn hX dX5_readLook_23 (zbit_or hb) (zend_i h6_)
def gX5_readLook (M : zM) : Option (Int32 × zM) :=
  zgP (M.2.2 47 3) (fun p1_ => (if (M.1 p1_ 10) < 0 then gX5_readLook_J18 M
  else (if (M.1 p1_ 10) < 10 then zcIM (gX5_reads 2 M) (fun v7_ M8_ => (if v7_ = 0 then some (0, M8_)
  else zgP (M8_.2.2 47 3) (fun p10_ => zgP (M8_.2.2 47 3) (fun p12_ => zcI (gX9_find (p10_ + 1) 6 (M8_.1 p12_ 0) (M8_.1 47 7) M8_) (fun v14_ => (if 0 ≤ v14_ then zgP (M8_.2.2 47 3) (fun p16_ => zg (zok (M.1 p1_ 10) 10) (zlet (zI M8_ (p16_ + 9) ((M.1 p1_ 10) : Int32).toNatClampNeg v14_) (fun M19_ => zcIM (gX5_readsNumber 0 99 M19_) (fun v21_ M22_ => (if v21_ = 0 then some (0, M22_)
  else zgP (M22_.2.2 47 3) (fun p24_ => zg (zok (M.1 p1_ 10) 10) (zlet (zI M22_ (p24_ + 10) ((M.1 p1_ 10) : Int32).toNatClampNeg (M22_.1 47 7)) (fun M27_ => zcIM (gX5_readsNumber 1 99 M27_) (fun v29_ M30_ => (if v29_ = 0 then some (0, M30_)
  else zgP (M30_.2.2 47 3) (fun p32_ => zg (zok (M.1 p1_ 10) 10) (zlet (zI M30_ (p32_ + 11) ((M.1 p1_ 10) : Int32).toNatClampNeg (M30_.1 47 7)) (fun M35_ => zgP (M35_.2.2 47 3) (fun p37_ => zlet (zI M35_ p37_ 10 ((M35_.1 p37_ 10) + 1)) (fun M39_ => zcIM (gX5_reads 4 M39_) (fun v41_ M42_ => zg (zbit v41_) (some (v41_, M42_))))))))))))))))))
  else zcIM (gX5_fails 4 M8_) (fun v45_ M46_ => zg (zbit v45_) (some (v45_, M46_)))))))))
  else gX5_readLook_J18 M)))
set_option maxRecDepth 100000 in
set_option maxHeartbeats 2000000 in
theorem mX5_readLook {G : zG}  {M : zM}  {res : (Int32 × zM)} (h : gX5_readLook M = some res) : Ct G 4 tX5_readLook [.ref 47] M (zQi res) := by
  unfold gX5_readLook at h
  refine Ct.of (y := yX5_readLook) rfl plX5 (Nat.le_of_ble_eq_true rfl) (fun X hX => ?_)
  replace hX : zC G X cX5_readLook 3 RX5 (some .boolean) 4 := hX
  show Z G X _ 0 [some (.ref 47), none, none] [] M
  refine z_aload_n hX dX5_readLook_0 rfl 1 rfl ?_
  obtain ⟨p1_, hm, hp1_, h2_⟩ := zgP_of h
  refine z_getR hX fX5_29 dX5_readLook_1 zs_47 (by decide) rfl hm 4 rfl ?_
  refine z_getI hX fX5_142 dX5_readLook_4 (zsP0 hp1_) (by decide) rfl 7 rfl ?_
  refine z_istore_n hX dX5_readLook_7 (by decide) 8 rfl ?_
  refine z_iload_n hX dX5_readLook_8 rfl 9 rfl ?_
  refine z_if_lt hX dX5_readLook_9 18 12 (by decide) rfl (fun hc => ?_) (fun hc => ?_)
  · rw [if_pos hc] at h2_
    refine z_mask [true, false, false] ?_
    have hz := aX5_readLook_J18 hX h2_
    exact hz
  · rw [if_neg hc] at h2_
    refine z_iload_n hX dX5_readLook_12 rfl 13 rfl ?_
    refine z_bipush hX dX5_readLook_13 qb_10 15 rfl ?_
    refine z_icmp_lt hX dX5_readLook_15 24 18 (by decide) rfl (fun hc => ?_) (fun hc => ?_)
    · rw [if_pos hc] at h2_
      refine z_aload_n hX dX5_readLook_24 rfl 25 rfl ?_
      refine z_iconst hX dX5_readLook_25 qi_2 26 rfl ?_
      obtain ⟨v7_, M8_, hq, h9_⟩ := zcIM_of h2_
      refine z_callV hX vX5_reads lX5_97 dX5_readLook_26 zs_47 rfl (mX5_reads  hq) (by decide) rfl rfl (Nat.le_of_ble_eq_true rfl) 29 rfl (Qi.to (fun v' M' hv => ?_))
      cases hv
      refine z_if_ne hX dX5_readLook_29 34 32 (by decide) rfl (fun hc => ?_) (fun hc => ?_)
      · rw [if_neg hc] at h9_
        refine z_aload_n hX dX5_readLook_34 rfl 35 rfl ?_
        obtain ⟨p10_, hm, hp10_, h11_⟩ := zgP_of h9_
        refine z_getR hX fX5_29 dX5_readLook_35 zs_47 (by decide) rfl hm 38 rfl ?_
        refine z_getF hX fX5_107 dX5_readLook_38 (zsP0 hp10_) (by decide) rfl 41 rfl ?_
        refine z_aload_n hX dX5_readLook_41 rfl 42 rfl ?_
        obtain ⟨p12_, hm, hp12_, h13_⟩ := zgP_of h11_
        refine z_getR hX fX5_29 dX5_readLook_42 zs_47 (by decide) rfl hm 45 rfl ?_
        refine z_getI hX fX5_104 dX5_readLook_45 (zsP0 hp12_) (by decide) rfl 48 rfl ?_
        refine z_aload_n hX dX5_readLook_48 rfl 49 rfl ?_
        refine z_getI hX fX5_73 dX5_readLook_49 zs_47 (by decide) rfl 52 rfl ?_
        obtain ⟨v14_, hq, h15_⟩ := zcI_of h13_
        refine z_callSN (host := "ColdFeet") hX vX9_find (by decide +kernel) dX5_readLook_52 (mX9_find (zsP1 hp10_) (by decide) hq) (by decide) rfl rfl (Nat.le_of_ble_eq_true rfl) 55 rfl (Qi.to (fun v' M' hv => ?_))
        obtain ⟨rfl, rfl⟩ := hv
        refine z_istore_n hX dX5_readLook_55 (by decide) 56 rfl ?_
        refine z_iload_n hX dX5_readLook_56 rfl 57 rfl ?_
        refine z_if_ge hX dX5_readLook_57 66 60 (by decide) rfl (fun hc => ?_) (fun hc => ?_)
        · rw [if_pos hc] at h15_
          refine z_aload_n hX dX5_readLook_66 rfl 67 rfl ?_
          obtain ⟨p16_, hm, hp16_, h17_⟩ := zgP_of h15_
          refine z_getR hX fX5_29 dX5_readLook_67 zs_47 (by decide) rfl hm 70 rfl ?_
          refine z_getF hX fX5_145 dX5_readLook_70 (zsP0 hp16_) (by decide) rfl 73 rfl ?_
          refine z_iload_n hX dX5_readLook_73 rfl 74 rfl ?_
          refine z_iload_n hX dX5_readLook_74 rfl 75 rfl ?_
          obtain ⟨hb, h18_⟩ := zgd h17_
          refine z_iast hX dX5_readLook_75 (zsP9 hp16_) (zok_in hb) 76 rfl ?_
          refine z_mem h18_ (fun M19_ h20_ => ?_)
          refine z_aload_n hX dX5_readLook_76 rfl 77 rfl ?_
          refine z_iconst hX dX5_readLook_77 qi_0 78 rfl ?_
          refine z_bipush hX dX5_readLook_78 qb_99 80 rfl ?_
          obtain ⟨v21_, M22_, hq, h23_⟩ := zcIM_of h20_
          refine z_callV hX vX5_readsNumber lX5_114 dX5_readLook_80 zs_47 rfl (mX5_readsNumber  hq) (by decide) rfl rfl (Nat.le_of_ble_eq_true rfl) 83 rfl (Qi.to (fun v' M' hv => ?_))
          cases hv
          refine z_if_ne hX dX5_readLook_83 88 86 (by decide) rfl (fun hc => ?_) (fun hc => ?_)
          · rw [if_neg hc] at h23_
            refine z_aload_n hX dX5_readLook_88 rfl 89 rfl ?_
            obtain ⟨p24_, hm, hp24_, h25_⟩ := zgP_of h23_
            refine z_getR hX fX5_29 dX5_readLook_89 zs_47 (by decide) rfl hm 92 rfl ?_
            refine z_getF hX fX5_148 dX5_readLook_92 (zsP0 hp24_) (by decide) rfl 95 rfl ?_
            refine z_iload_n hX dX5_readLook_95 rfl 96 rfl ?_
            refine z_aload_n hX dX5_readLook_96 rfl 97 rfl ?_
            refine z_getI hX fX5_73 dX5_readLook_97 zs_47 (by decide) rfl 100 rfl ?_
            obtain ⟨hb, h26_⟩ := zgd h25_
            refine z_iast hX dX5_readLook_100 (zsP10 hp24_) (zok_in hb) 101 rfl ?_
            refine z_mem h26_ (fun M27_ h28_ => ?_)
            refine z_aload_n hX dX5_readLook_101 rfl 102 rfl ?_
            refine z_iconst hX dX5_readLook_102 qi_1 103 rfl ?_
            refine z_bipush hX dX5_readLook_103 qb_99 105 rfl ?_
            obtain ⟨v29_, M30_, hq, h31_⟩ := zcIM_of h28_
            refine z_callV hX vX5_readsNumber lX5_114 dX5_readLook_105 zs_47 rfl (mX5_readsNumber  hq) (by decide) rfl rfl (Nat.le_of_ble_eq_true rfl) 108 rfl (Qi.to (fun v' M' hv => ?_))
            cases hv
            refine z_if_ne hX dX5_readLook_108 113 111 (by decide) rfl (fun hc => ?_) (fun hc => ?_)
            · rw [if_neg hc] at h31_
              refine z_aload_n hX dX5_readLook_113 rfl 114 rfl ?_
              obtain ⟨p32_, hm, hp32_, h33_⟩ := zgP_of h31_
              refine z_getR hX fX5_29 dX5_readLook_114 zs_47 (by decide) rfl hm 117 rfl ?_
              refine z_getF hX fX5_151 dX5_readLook_117 (zsP0 hp32_) (by decide) rfl 120 rfl ?_
              refine z_iload_n hX dX5_readLook_120 rfl 121 rfl ?_
              refine z_aload_n hX dX5_readLook_121 rfl 122 rfl ?_
              refine z_getI hX fX5_73 dX5_readLook_122 zs_47 (by decide) rfl 125 rfl ?_
              obtain ⟨hb, h34_⟩ := zgd h33_
              refine z_iast hX dX5_readLook_125 (zsP11 hp32_) (zok_in hb) 126 rfl ?_
              refine z_mem h34_ (fun M35_ h36_ => ?_)
              refine z_aload_n hX dX5_readLook_126 rfl 127 rfl ?_
              obtain ⟨p37_, hm, hp37_, h38_⟩ := zgP_of h36_
              refine z_getR hX fX5_29 dX5_readLook_127 zs_47 (by decide) rfl hm 130 rfl ?_
              refine z_dup hX dX5_readLook_130 rfl 131 rfl ?_
              refine z_getI hX fX5_142 dX5_readLook_131 (zsP0 hp37_) (by decide) rfl 134 rfl ?_
              refine z_iconst hX dX5_readLook_134 qi_1 135 rfl ?_
              refine z_iadd hX dX5_readLook_135 136 rfl ?_
              refine z_putI hX pX5_142 dX5_readLook_136 (zsP0 hp37_) (by decide) rfl 139 rfl ?_
              refine z_mem h38_ (fun M39_ h40_ => ?_)
              refine z_aload_n hX dX5_readLook_139 rfl 140 rfl ?_
              refine z_iconst hX dX5_readLook_140 qi_4 141 rfl ?_
              obtain ⟨v41_, M42_, hq, h43_⟩ := zcIM_of h40_
              refine z_callV hX vX5_reads lX5_97 dX5_readLook_141 zs_47 rfl (mX5_reads  hq) (by decide) rfl rfl (Nat.le_of_ble_eq_true rfl) 144 rfl (Qi.to (fun v' M' hv => ?_))
              cases hv
              obtain ⟨hb, h44_⟩ := zgd h43_
              exact z_zreturn hX dX5_readLook_144 (zbit_or hb) (zend_i h44_)
            · rw [if_pos hc] at h31_
              refine z_iconst hX dX5_readLook_111 qi_0 112 rfl ?_
              exact z_zreturn hX dX5_readLook_112 (by decide) (zend_i h31_)
          · rw [if_pos hc] at h23_
            refine z_iconst hX dX5_readLook_86 qi_0 87 rfl ?_
            exact z_zreturn hX dX5_readLook_87 (by decide) (zend_i h23_)
        · rw [if_neg hc] at h15_
          refine z_aload_n hX dX5_readLook_60 rfl 61 rfl ?_
          refine z_iconst hX dX5_readLook_61 qi_4 62 rfl ?_
          obtain ⟨v45_, M46_, hq, h47_⟩ := zcIM_of h15_
          refine z_callV hX vX5_fails lX5_94 dX5_readLook_62 zs_47 rfl (mX5_fails  hq) (by decide) rfl rfl (Nat.le_of_ble_eq_true rfl) 65 rfl (Qi.to (fun v' M' hv => ?_))
          cases hv
          obtain ⟨hb, h48_⟩ := zgd h47_
          exact z_zreturn hX dX5_readLook_65 (zbit_or hb) (zend_i h48_)
      · rw [if_pos hc] at h9_
        refine z_iconst hX dX5_readLook_32 qi_0 33 rfl ?_
        exact z_zreturn hX dX5_readLook_33 (by decide) (zend_i h9_)
    · rw [if_neg hc] at h2_
      refine z_mask [true, false, false] ?_
      have hz := aX5_readLook_J18 hX h2_
      exact hz
def gX5_levelOf_J79 (x0 : Int32) (M : zM) : Option Int32 :=
  (if x0 < 29 then some 0
  else (if 34 < x0 then some 0
  else some 4))
set_option maxRecDepth 100000 in
set_option maxHeartbeats 2000000 in
theorem aX5_levelOf_J79 {G : zG} {X : zX} {x0 : Int32} (hX : zC G X cX5_levelOf 1 RX5 (some .int) 1)   {M : zM} {res : Int32}  (h : gX5_levelOf_J79 x0 M = some res) : Z G X (zQip M res) 79 [some (.int x0)] [] M := by
  unfold gX5_levelOf_J79 at h
  refine z_iload_n hX dX5_levelOf_79 rfl 80 rfl ?_
  refine z_bipush hX dX5_levelOf_80 qb_29 82 rfl ?_
  refine z_icmp_lt hX dX5_levelOf_82 95 85 (by decide) rfl (fun hc => ?_) (fun hc => ?_)
  · rw [if_pos hc] at h
    refine z_iconst hX dX5_levelOf_95 qi_0 96 rfl ?_
    exact z_ireturn hX dX5_levelOf_96 (zend_ip h)
  · rw [if_neg hc] at h
    refine z_iload_n hX dX5_levelOf_85 rfl 86 rfl ?_
    refine z_bipush hX dX5_levelOf_86 qb_34 88 rfl ?_
    refine z_icmp_gt hX dX5_levelOf_88 95 91 (by decide) rfl (fun hc => ?_) (fun hc => ?_)
    · rw [if_pos hc] at h
      refine z_iconst hX dX5_levelOf_95 qi_0 96 rfl ?_
      exact z_ireturn hX dX5_levelOf_96 (zend_ip h)
    · rw [if_neg hc] at h
      refine z_iconst hX dX5_levelOf_91 qi_4 92 rfl ?_
      refine z_goto hX dX5_levelOf_92 96 (by decide) ?_
      exact z_ireturn hX dX5_levelOf_96 (zend_ip h)
def gX5_levelOf (x0 : Int32) (M : zM) : Option Int32 :=
  (if x0 = 26 then some 1
  else if x0 = 27 then some 2
  else if x0 = 28 then some 3
  else if x0 = 29 then gX5_levelOf_J79 x0 M
  else if x0 = 30 then gX5_levelOf_J79 x0 M
  else if x0 = 31 then gX5_levelOf_J79 x0 M
  else if x0 = 32 then gX5_levelOf_J79 x0 M
  else if x0 = 33 then gX5_levelOf_J79 x0 M
  else if x0 = 34 then gX5_levelOf_J79 x0 M
  else if x0 = 35 then some 5
  else if x0 = 36 then some 5
  else if x0 = 37 then some 6
  else if x0 = 38 then some 6
  else gX5_levelOf_J79 x0 M)
set_option maxRecDepth 100000 in
set_option maxHeartbeats 2000000 in
theorem mX5_levelOf {G : zG} {x0 : Int32} {M : zM}  {res : Int32} (h : gX5_levelOf x0 M = some res) : Ct G 1 tX5_levelOf [.int x0] M (zQip M res) := by
  unfold gX5_levelOf at h
  refine Ct.of (y := yX5_levelOf) rfl plX5 (Nat.le_of_ble_eq_true rfl) (fun X hX => ?_)
  replace hX : zC G X cX5_levelOf 1 RX5 (some .int) 1 := hX
  show Z G X _ 0 [some (.int x0)] [] M
  refine z_iload_n hX dX5_levelOf_0 rfl 1 rfl ?_
  by_cases hc0 : x0 = 26
  · rw [if_pos hc0] at h
    refine z_tabIn hX dX5_levelOf_1 (by rw [hc0]; decide) (by rw [hc0]; decide) (by rw [hc0]; rfl) 68 (by decide) ?_
    refine z_iconst hX dX5_levelOf_68 qi_1 69 rfl ?_
    exact z_ireturn hX dX5_levelOf_69 (zend_ip h)
  rw [if_neg hc0] at h
  by_cases hc1 : x0 = 27
  · rw [if_pos hc1] at h
    refine z_tabIn hX dX5_levelOf_1 (by rw [hc1]; decide) (by rw [hc1]; decide) (by rw [hc1]; rfl) 70 (by decide) ?_
    refine z_iconst hX dX5_levelOf_70 qi_2 71 rfl ?_
    exact z_ireturn hX dX5_levelOf_71 (zend_ip h)
  rw [if_neg hc1] at h
  by_cases hc2 : x0 = 28
  · rw [if_pos hc2] at h
    refine z_tabIn hX dX5_levelOf_1 (by rw [hc2]; decide) (by rw [hc2]; decide) (by rw [hc2]; rfl) 72 (by decide) ?_
    refine z_iconst hX dX5_levelOf_72 qi_3 73 rfl ?_
    exact z_ireturn hX dX5_levelOf_73 (zend_ip h)
  rw [if_neg hc2] at h
  by_cases hc3 : x0 = 29
  · rw [if_pos hc3] at h
    refine z_tabIn hX dX5_levelOf_1 (by rw [hc3]; decide) (by rw [hc3]; decide) (by rw [hc3]; rfl) 79 (by decide) ?_
    refine z_mask [true] ?_
    have hz := aX5_levelOf_J79 hX h
    exact hz
  rw [if_neg hc3] at h
  by_cases hc4 : x0 = 30
  · rw [if_pos hc4] at h
    refine z_tabIn hX dX5_levelOf_1 (by rw [hc4]; decide) (by rw [hc4]; decide) (by rw [hc4]; rfl) 79 (by decide) ?_
    refine z_mask [true] ?_
    have hz := aX5_levelOf_J79 hX h
    exact hz
  rw [if_neg hc4] at h
  by_cases hc5 : x0 = 31
  · rw [if_pos hc5] at h
    refine z_tabIn hX dX5_levelOf_1 (by rw [hc5]; decide) (by rw [hc5]; decide) (by rw [hc5]; rfl) 79 (by decide) ?_
    refine z_mask [true] ?_
    have hz := aX5_levelOf_J79 hX h
    exact hz
  rw [if_neg hc5] at h
  by_cases hc6 : x0 = 32
  · rw [if_pos hc6] at h
    refine z_tabIn hX dX5_levelOf_1 (by rw [hc6]; decide) (by rw [hc6]; decide) (by rw [hc6]; rfl) 79 (by decide) ?_
    refine z_mask [true] ?_
    have hz := aX5_levelOf_J79 hX h
    exact hz
  rw [if_neg hc6] at h
  by_cases hc7 : x0 = 33
  · rw [if_pos hc7] at h
    refine z_tabIn hX dX5_levelOf_1 (by rw [hc7]; decide) (by rw [hc7]; decide) (by rw [hc7]; rfl) 79 (by decide) ?_
    refine z_mask [true] ?_
    have hz := aX5_levelOf_J79 hX h
    exact hz
  rw [if_neg hc7] at h
  by_cases hc8 : x0 = 34
  · rw [if_pos hc8] at h
    refine z_tabIn hX dX5_levelOf_1 (by rw [hc8]; decide) (by rw [hc8]; decide) (by rw [hc8]; rfl) 79 (by decide) ?_
    refine z_mask [true] ?_
    have hz := aX5_levelOf_J79 hX h
    exact hz
  rw [if_neg hc8] at h
  by_cases hc9 : x0 = 35
  · rw [if_pos hc9] at h
    refine z_tabIn hX dX5_levelOf_1 (by rw [hc9]; decide) (by rw [hc9]; decide) (by rw [hc9]; rfl) 74 (by decide) ?_
    refine z_iconst hX dX5_levelOf_74 qi_5 75 rfl ?_
    exact z_ireturn hX dX5_levelOf_75 (zend_ip h)
  rw [if_neg hc9] at h
  by_cases hc10 : x0 = 36
  · rw [if_pos hc10] at h
    refine z_tabIn hX dX5_levelOf_1 (by rw [hc10]; decide) (by rw [hc10]; decide) (by rw [hc10]; rfl) 74 (by decide) ?_
    refine z_iconst hX dX5_levelOf_74 qi_5 75 rfl ?_
    exact z_ireturn hX dX5_levelOf_75 (zend_ip h)
  rw [if_neg hc10] at h
  by_cases hc11 : x0 = 37
  · rw [if_pos hc11] at h
    refine z_tabIn hX dX5_levelOf_1 (by rw [hc11]; decide) (by rw [hc11]; decide) (by rw [hc11]; rfl) 76 (by decide) ?_
    refine z_bipush hX dX5_levelOf_76 qb_6 78 rfl ?_
    exact z_ireturn hX dX5_levelOf_78 (zend_ip h)
  rw [if_neg hc11] at h
  by_cases hc12 : x0 = 38
  · rw [if_pos hc12] at h
    refine z_tabIn hX dX5_levelOf_1 (by rw [hc12]; decide) (by rw [hc12]; decide) (by rw [hc12]; rfl) 76 (by decide) ?_
    refine z_bipush hX dX5_levelOf_76 qb_6 78 rfl ?_
    exact z_ireturn hX dX5_levelOf_78 (zend_ip h)
  rw [if_neg hc12] at h
  have hout : (x0 : Int32).toInt < 26 ∨ 38 < (x0 : Int32).toInt := zsw_out (fun k h1 h2 => by
    have hk : k = 26 ∨ k = 27 ∨ k = 28 ∨ k = 29 ∨ k = 30 ∨ k = 31 ∨ k = 32 ∨ k = 33 ∨ k = 34 ∨ k = 35 ∨ k = 36 ∨ k = 37 ∨ k = 38 := by omega
    rcases hk with rfl | rfl | rfl | rfl | rfl | rfl | rfl | rfl | rfl | rfl | rfl | rfl | rfl
    · exact hc0
    · exact hc1
    · exact hc2
    · exact hc3
    · exact hc4
    · exact hc5
    · exact hc6
    · exact hc7
    · exact hc8
    · exact hc9
    · exact hc10
    · exact hc11
    · exact hc12)
  refine z_tabOut hX dX5_levelOf_1 hout 79 (by decide) ?_
  refine z_mask [true] ?_
  have hz := aX5_levelOf_J79 hX h
  exact hz
def gX1_tell (p : Nat) (x1 : Int32) (x2 : Int32) (M : zM) : Option zM :=
  (if (M.1 (p + 14) 1) < 0 then some M
  else (if 64 ≤ (M.1 (p + 14) 1) then some M
  else zg (zok (M.1 (p + 14) 1) 64) (zlet (zI M (p + 17) ((M.1 (p + 14) 1) : Int32).toNatClampNeg x1) (fun M2_ => zg (zok (M2_.1 (p + 14) 1) 64) (zlet (zI M2_ (p + 18) ((M2_.1 (p + 14) 1) : Int32).toNatClampNeg x2) (fun M5_ => zlet (zI M5_ (p + 14) 1 ((M5_.1 (p + 14) 1) + 1)) (fun M7_ => some M7_)))))))
set_option maxRecDepth 100000 in
set_option maxHeartbeats 2000000 in
theorem mX1_tell {G : zG} {p : Nat} {x1 : Int32} {x2 : Int32} {M : zM} (hp : isPl p) {res : zM} (h : gX1_tell p x1 x2 M = some res) : Ct G 1 tX1_tell [.ref (p + 14), .int x1, .int x2] M (zQv res) := by
  unfold gX1_tell at h
  refine Ct.of (y := yX1_tell) rfl plX1 (Nat.le_of_ble_eq_true rfl) (fun X hX => ?_)
  replace hX : zC G X cX1_tell 3 RX1 none 1 := hX
  show Z G X _ 0 [some (.ref (p + 14)), some (.int x1), some (.int x2)] [] M
  refine z_aload_n hX dX1_tell_0 rfl 1 rfl ?_
  refine z_getI hX fX1_37 dX1_tell_1 (zsP14 hp) (by decide) rfl 4 rfl ?_
  refine z_if_lt hX dX1_tell_4 46 7 (by decide) rfl (fun hc => ?_) (fun hc => ?_)
  · rw [if_pos hc] at h
    exact z_return hX dX1_tell_46 (zend_v h)
  · rw [if_neg hc] at h
    refine z_aload_n hX dX1_tell_7 rfl 8 rfl ?_
    refine z_getI hX fX1_37 dX1_tell_8 (zsP14 hp) (by decide) rfl 11 rfl ?_
    refine z_bipush hX dX1_tell_11 qb_64 13 rfl ?_
    refine z_icmp_ge hX dX1_tell_13 46 16 (by decide) rfl (fun hc => ?_) (fun hc => ?_)
    · rw [if_pos hc] at h
      exact z_return hX dX1_tell_46 (zend_v h)
    · rw [if_neg hc] at h
      refine z_aload_n hX dX1_tell_16 rfl 17 rfl ?_
      refine z_getF hX fX1_18 dX1_tell_17 (zsP14 hp) (by decide) rfl 20 rfl ?_
      refine z_aload_n hX dX1_tell_20 rfl 21 rfl ?_
      refine z_getI hX fX1_37 dX1_tell_21 (zsP14 hp) (by decide) rfl 24 rfl ?_
      refine z_iload_n hX dX1_tell_24 rfl 25 rfl ?_
      obtain ⟨hb, h1_⟩ := zgd h
      refine z_iast hX dX1_tell_25 (zsP17 hp) (zok_in hb) 26 rfl ?_
      refine z_mem h1_ (fun M2_ h3_ => ?_)
      refine z_aload_n hX dX1_tell_26 rfl 27 rfl ?_
      refine z_getF hX fX1_21 dX1_tell_27 (zsP14 hp) (by decide) rfl 30 rfl ?_
      refine z_aload_n hX dX1_tell_30 rfl 31 rfl ?_
      refine z_getI hX fX1_37 dX1_tell_31 (zsP14 hp) (by decide) rfl 34 rfl ?_
      refine z_iload_n hX dX1_tell_34 rfl 35 rfl ?_
      obtain ⟨hb, h4_⟩ := zgd h3_
      refine z_iast hX dX1_tell_35 (zsP18 hp) (zok_in hb) 36 rfl ?_
      refine z_mem h4_ (fun M5_ h6_ => ?_)
      refine z_aload_n hX dX1_tell_36 rfl 37 rfl ?_
      refine z_dup hX dX1_tell_37 rfl 38 rfl ?_
      refine z_getI hX fX1_37 dX1_tell_38 (zsP14 hp) (by decide) rfl 41 rfl ?_
      refine z_iconst hX dX1_tell_41 qi_1 42 rfl ?_
      refine z_iadd hX dX1_tell_42 43 rfl ?_
      refine z_putI hX pX1_37 dX1_tell_43 (zsP14 hp) (by decide) rfl 46 rfl ?_
      refine z_mem h6_ (fun M7_ h8_ => ?_)
      exact z_return hX dX1_tell_46 (zend_v h8_)
def gX5_release_L0 (x1 : Int32) (rc0 : zM → Option zM) (s : zM) : Option zM :=
  (if (s.1 47 10) ≤ 0 then some s
  else zg (zok ((s.1 47 10) - 1) 72) ((if (s.1 49 (((s.1 47 10) - 1) : Int32).toNatClampNeg) < x1 then some s
  else zlet (zI s 47 10 ((s.1 47 10) - 1)) (fun M2_ => zgP (M2_.2.2 47 3) (fun p4_ => zg (zok (M2_.1 47 10) 72) (zcV (gX1_tell p4_ (M2_.1 48 ((M2_.1 47 10) : Int32).toNatClampNeg) 0 M2_) (fun M7_ => rc0 M7_)))))))
set_option maxRecDepth 100000 in
set_option maxHeartbeats 2000000 in
theorem aX5_release_L0 {G : zG} {X : zX} {x1 : Int32} (hX : zC G X cX5_release 2 RX5 none 2)    {res : zM}  : ∀ (N : Nat) (s : zM), zfix N (gX5_release_L0 x1) s = some res → Z G X (zQv res) 0 [some (.ref 47), some (.int x1)] [] s := by
  intro N
  induction N with
  | zero => intro s h; cases h
  | succ N hrc0 =>
    intro s h
    replace h : gX5_release_L0 x1 (zfix N (gX5_release_L0 x1)) s = some res := h
    unfold gX5_release_L0 at h
    refine z_aload_n hX dX5_release_0 rfl 1 rfl ?_
    refine z_getI hX fX5_174 dX5_release_1 zs_47 (by decide) rfl 4 rfl ?_
    refine z_if_le hX dX5_release_4 55 7 (by decide) rfl (fun hc => ?_) (fun hc => ?_)
    · rw [if_pos hc] at h
      exact z_return hX dX5_release_55 (zend_v h)
    · rw [if_neg hc] at h
      refine z_aload_n hX dX5_release_7 rfl 8 rfl ?_
      refine z_getF hX fX5_26 dX5_release_8 zs_47 (by decide) rfl 11 rfl ?_
      refine z_aload_n hX dX5_release_11 rfl 12 rfl ?_
      refine z_getI hX fX5_174 dX5_release_12 zs_47 (by decide) rfl 15 rfl ?_
      refine z_iconst hX dX5_release_15 qi_1 16 rfl ?_
      refine z_isub hX dX5_release_16 17 rfl ?_
      obtain ⟨hb, h1_⟩ := zgd h
      refine z_iald hX dX5_release_17 zs_49 (zok_in hb) 18 rfl ?_
      refine z_iload_n hX dX5_release_18 rfl 19 rfl ?_
      refine z_icmp_lt hX dX5_release_19 55 22 (by decide) rfl (fun hc => ?_) (fun hc => ?_)
      · rw [if_pos hc] at h1_
        exact z_return hX dX5_release_55 (zend_v h1_)
      · rw [if_neg hc] at h1_
        refine z_aload_n hX dX5_release_22 rfl 23 rfl ?_
        refine z_dup hX dX5_release_23 rfl 24 rfl ?_
        refine z_getI hX fX5_174 dX5_release_24 zs_47 (by decide) rfl 27 rfl ?_
        refine z_iconst hX dX5_release_27 qi_1 28 rfl ?_
        refine z_isub hX dX5_release_28 29 rfl ?_
        refine z_putI hX pX5_174 dX5_release_29 zs_47 (by decide) rfl 32 rfl ?_
        refine z_mem h1_ (fun M2_ h3_ => ?_)
        refine z_aload_n hX dX5_release_32 rfl 33 rfl ?_
        obtain ⟨p4_, hm, hp4_, h5_⟩ := zgP_of h3_
        refine z_getR hX fX5_29 dX5_release_33 zs_47 (by decide) rfl hm 36 rfl ?_
        refine z_getF hX fX5_164 dX5_release_36 (zsP0 hp4_) (by decide) rfl 39 rfl ?_
        refine z_aload_n hX dX5_release_39 rfl 40 rfl ?_
        refine z_getF hX fX5_22 dX5_release_40 zs_47 (by decide) rfl 43 rfl ?_
        refine z_aload_n hX dX5_release_43 rfl 44 rfl ?_
        refine z_getI hX fX5_174 dX5_release_44 zs_47 (by decide) rfl 47 rfl ?_
        obtain ⟨hb, h6_⟩ := zgd h5_
        refine z_iald hX dX5_release_47 zs_48 (zok_in hb) 48 rfl ?_
        refine z_iconst hX dX5_release_48 qi_0 49 rfl ?_
        obtain ⟨M7_, hq, h8_⟩ := zcV_of h6_
        refine z_callV hX vX1_tell lX5_213 dX5_release_49 (zsP14 hp4_) rfl (mX1_tell hp4_ hq) (by decide) rfl rfl (Nat.le_of_ble_eq_true rfl) 52 rfl (Qv.to (fun M' hv => ?_))
        subst hv
        refine z_goto hX dX5_release_52 0 (by decide) ?_
        refine z_mask [true, true] ?_
        have hz := hrc0 _ h8_
        exact hz
def gX5_release (x1 : Int32) (M : zM) : Option zM :=
  zfix zFu (gX5_release_L0 x1) M
set_option maxRecDepth 100000 in
set_option maxHeartbeats 2000000 in
theorem mX5_release {G : zG} {x1 : Int32} {M : zM}  {res : zM} (h : gX5_release x1 M = some res) : Ct G 2 tX5_release [.ref 47, .int x1] M (zQv res) := by
  unfold gX5_release at h
  refine Ct.of (y := yX5_release) rfl plX5 (Nat.le_of_ble_eq_true rfl) (fun X hX => ?_)
  replace hX : zC G X cX5_release 2 RX5 none 2 := hX
  show Z G X _ 0 [some (.ref 47), some (.int x1)] [] M
  refine z_mask [true, true] ?_
  have hz := aX5_release_L0 hX _ _ h
  exact hz
def gX5_putWaiting (x1 : Int32) (M : zM) : Option zM :=
  (if (M.1 47 10) < 0 then some M
  else (if 72 ≤ (M.1 47 10) then some M
  else zg (zok (M.1 47 10) 72) (zlet (zI M 48 ((M.1 47 10) : Int32).toNatClampNeg (M.1 47 5)) (fun M2_ => zg (zok (M2_.1 47 10) 72) (zlet (zI M2_ 49 ((M2_.1 47 10) : Int32).toNatClampNeg x1) (fun M5_ => zlet (zI M5_ 47 10 ((M5_.1 47 10) + 1)) (fun M7_ => some M7_)))))))
set_option maxRecDepth 100000 in
set_option maxHeartbeats 2000000 in
theorem mX5_putWaiting {G : zG} {x1 : Int32} {M : zM}  {res : zM} (h : gX5_putWaiting x1 M = some res) : Ct G 1 tX5_putWaiting [.ref 47, .int x1] M (zQv res) := by
  unfold gX5_putWaiting at h
  refine Ct.of (y := yX5_putWaiting) rfl plX5 (Nat.le_of_ble_eq_true rfl) (fun X hX => ?_)
  replace hX : zC G X cX5_putWaiting 2 RX5 none 1 := hX
  show Z G X _ 0 [some (.ref 47), some (.int x1)] [] M
  refine z_aload_n hX dX5_putWaiting_0 rfl 1 rfl ?_
  refine z_getI hX fX5_174 dX5_putWaiting_1 zs_47 (by decide) rfl 4 rfl ?_
  refine z_if_lt hX dX5_putWaiting_4 49 7 (by decide) rfl (fun hc => ?_) (fun hc => ?_)
  · rw [if_pos hc] at h
    exact z_return hX dX5_putWaiting_49 (zend_v h)
  · rw [if_neg hc] at h
    refine z_aload_n hX dX5_putWaiting_7 rfl 8 rfl ?_
    refine z_getI hX fX5_174 dX5_putWaiting_8 zs_47 (by decide) rfl 11 rfl ?_
    refine z_bipush hX dX5_putWaiting_11 qb_72 13 rfl ?_
    refine z_icmp_ge hX dX5_putWaiting_13 49 16 (by decide) rfl (fun hc => ?_) (fun hc => ?_)
    · rw [if_pos hc] at h
      exact z_return hX dX5_putWaiting_49 (zend_v h)
    · rw [if_neg hc] at h
      refine z_aload_n hX dX5_putWaiting_16 rfl 17 rfl ?_
      refine z_getF hX fX5_22 dX5_putWaiting_17 zs_47 (by decide) rfl 20 rfl ?_
      refine z_aload_n hX dX5_putWaiting_20 rfl 21 rfl ?_
      refine z_getI hX fX5_174 dX5_putWaiting_21 zs_47 (by decide) rfl 24 rfl ?_
      refine z_aload_n hX dX5_putWaiting_24 rfl 25 rfl ?_
      refine z_getI hX fX5_51 dX5_putWaiting_25 zs_47 (by decide) rfl 28 rfl ?_
      obtain ⟨hb, h1_⟩ := zgd h
      refine z_iast hX dX5_putWaiting_28 zs_48 (zok_in hb) 29 rfl ?_
      refine z_mem h1_ (fun M2_ h3_ => ?_)
      refine z_aload_n hX dX5_putWaiting_29 rfl 30 rfl ?_
      refine z_getF hX fX5_26 dX5_putWaiting_30 zs_47 (by decide) rfl 33 rfl ?_
      refine z_aload_n hX dX5_putWaiting_33 rfl 34 rfl ?_
      refine z_getI hX fX5_174 dX5_putWaiting_34 zs_47 (by decide) rfl 37 rfl ?_
      refine z_iload_n hX dX5_putWaiting_37 rfl 38 rfl ?_
      obtain ⟨hb, h4_⟩ := zgd h3_
      refine z_iast hX dX5_putWaiting_38 zs_49 (zok_in hb) 39 rfl ?_
      refine z_mem h4_ (fun M5_ h6_ => ?_)
      refine z_aload_n hX dX5_putWaiting_39 rfl 40 rfl ?_
      refine z_dup hX dX5_putWaiting_40 rfl 41 rfl ?_
      refine z_getI hX fX5_174 dX5_putWaiting_41 zs_47 (by decide) rfl 44 rfl ?_
      refine z_iconst hX dX5_putWaiting_44 qi_1 45 rfl ?_
      refine z_iadd hX dX5_putWaiting_45 46 rfl ?_
      refine z_putI hX pX5_174 dX5_putWaiting_46 zs_47 (by decide) rfl 49 rfl ?_
      refine z_mem h6_ (fun M7_ h8_ => ?_)
      exact z_return hX dX5_putWaiting_49 (zend_v h8_)
def gX5_takeOperator_J135 (x1 : Int32) (M : zM) : Option (Int32 × zM) :=
  zgP (M.2.2 47 3) (fun p5_ => (if (M.1 (p5_ + 14) 0) < 64 then zgP (M.2.2 47 3) (fun p7_ => zlet (zI M (p7_ + 14) 0 ((M.1 (p7_ + 14) 0) + 1)) (fun M9_ => zcV (gX5_putWaiting x1 M9_) (fun M11_ => zlet (zI M11_ 47 12 1) (fun M13_ => (if (M13_.1 47 5) = 27 then zlet (zI M13_ 47 13 1) (fun M15_ => some (1, M15_))
  else (if (M13_.1 47 5) = 26 then zlet (zI M13_ 47 13 1) (fun M19_ => some (1, M19_))
  else zlet (zI M13_ 47 13 0) (fun M17_ => some (1, M17_))))))))
  else zcIM (gX5_fails 2 M) (fun v21_ M22_ => zg (zbit v21_) (some (v21_, M22_)))))
set_option maxRecDepth 100000 in
set_option maxHeartbeats 2000000 in
theorem aX5_takeOperator_J135 {G : zG} {X : zX} {x1 : Int32} (hX : zC G X cX5_takeOperator 3 RX5 (some .boolean) 3)   {M : zM} {res : (Int32 × zM)}  (h : gX5_takeOperator_J135 x1 M = some res) : Z G X (zQi res) 135 [some (.ref 47), some (.int x1), none] [] M := by
  unfold gX5_takeOperator_J135 at h
  refine z_aload_n hX dX5_takeOperator_135 rfl 136 rfl ?_
  obtain ⟨p5_, hm, hp5_, h6_⟩ := zgP_of h
  refine z_getR hX fX5_29 dX5_takeOperator_136 zs_47 (by decide) rfl hm 139 rfl ?_
  refine z_getF hX fX5_164 dX5_takeOperator_139 (zsP0 hp5_) (by decide) rfl 142 rfl ?_
  refine z_getI hX fX5_203 dX5_takeOperator_142 (zsP14 hp5_) (by decide) rfl 145 rfl ?_
  refine z_bipush hX dX5_takeOperator_145 qb_64 147 rfl ?_
  refine z_icmp_lt hX dX5_takeOperator_147 156 150 (by decide) rfl (fun hc => ?_) (fun hc => ?_)
  · rw [if_pos hc] at h6_
    refine z_aload_n hX dX5_takeOperator_156 rfl 157 rfl ?_
    obtain ⟨p7_, hm, hp7_, h8_⟩ := zgP_of h6_
    refine z_getR hX fX5_29 dX5_takeOperator_157 zs_47 (by decide) rfl hm 160 rfl ?_
    refine z_getF hX fX5_164 dX5_takeOperator_160 (zsP0 hp7_) (by decide) rfl 163 rfl ?_
    refine z_dup hX dX5_takeOperator_163 rfl 164 rfl ?_
    refine z_getI hX fX5_203 dX5_takeOperator_164 (zsP14 hp7_) (by decide) rfl 167 rfl ?_
    refine z_iconst hX dX5_takeOperator_167 qi_1 168 rfl ?_
    refine z_iadd hX dX5_takeOperator_168 169 rfl ?_
    refine z_putI hX pX5_203 dX5_takeOperator_169 (zsP14 hp7_) (by decide) rfl 172 rfl ?_
    refine z_mem h8_ (fun M9_ h10_ => ?_)
    refine z_aload_n hX dX5_takeOperator_172 rfl 173 rfl ?_
    refine z_iload_n hX dX5_takeOperator_173 rfl 174 rfl ?_
    obtain ⟨M11_, hq, h12_⟩ := zcV_of h10_
    refine z_callV hX vX5_putWaiting lX5_210 dX5_takeOperator_174 zs_47 rfl (mX5_putWaiting  hq) (by decide) rfl rfl (Nat.le_of_ble_eq_true rfl) 177 rfl (Qv.to (fun M' hv => ?_))
    subst hv
    refine z_aload_n hX dX5_takeOperator_177 rfl 178 rfl ?_
    refine z_iconst hX dX5_takeOperator_178 qi_1 179 rfl ?_
    refine z_putZ hX pX5_180 dX5_takeOperator_179 zs_47 (by decide) rfl (by decide) 182 rfl ?_
    refine z_mem h12_ (fun M13_ h14_ => ?_)
    refine z_aload_n hX dX5_takeOperator_182 rfl 183 rfl ?_
    refine z_aload_n hX dX5_takeOperator_183 rfl 184 rfl ?_
    refine z_getI hX fX5_51 dX5_takeOperator_184 zs_47 (by decide) rfl 187 rfl ?_
    refine z_bipush hX dX5_takeOperator_187 qb_27 189 rfl ?_
    refine z_icmp_eq hX dX5_takeOperator_189 201 192 (by decide) rfl (fun hc => ?_) (fun hc => ?_)
    · rw [if_pos hc] at h14_
      refine z_iconst hX dX5_takeOperator_201 qi_1 202 rfl ?_
      refine z_goto hX dX5_takeOperator_202 206 (by decide) ?_
      refine z_putZ hX pX5_184 dX5_takeOperator_206 zs_47 (by decide) rfl (by decide) 209 rfl ?_
      refine z_mem h14_ (fun M15_ h16_ => ?_)
      refine z_iconst hX dX5_takeOperator_209 qi_1 210 rfl ?_
      exact z_zreturn hX dX5_takeOperator_210 (by decide) (zend_i h16_)
    · rw [if_neg hc] at h14_
      refine z_aload_n hX dX5_takeOperator_192 rfl 193 rfl ?_
      refine z_getI hX fX5_51 dX5_takeOperator_193 zs_47 (by decide) rfl 196 rfl ?_
      refine z_bipush hX dX5_takeOperator_196 qb_26 198 rfl ?_
      refine z_icmp_ne hX dX5_takeOperator_198 205 201 (by decide) rfl (fun hc => ?_) (fun hc => ?_)
      · rw [if_neg hc] at h14_
        refine z_iconst hX dX5_takeOperator_205 qi_0 206 rfl ?_
        refine z_putZ hX pX5_184 dX5_takeOperator_206 zs_47 (by decide) rfl (by decide) 209 rfl ?_
        refine z_mem h14_ (fun M17_ h18_ => ?_)
        refine z_iconst hX dX5_takeOperator_209 qi_1 210 rfl ?_
        exact z_zreturn hX dX5_takeOperator_210 (by decide) (zend_i h18_)
      · rw [if_pos hc] at h14_
        refine z_iconst hX dX5_takeOperator_201 qi_1 202 rfl ?_
        refine z_goto hX dX5_takeOperator_202 206 (by decide) ?_
        refine z_putZ hX pX5_184 dX5_takeOperator_206 zs_47 (by decide) rfl (by decide) 209 rfl ?_
        refine z_mem h14_ (fun M19_ h20_ => ?_)
        refine z_iconst hX dX5_takeOperator_209 qi_1 210 rfl ?_
        exact z_zreturn hX dX5_takeOperator_210 (by decide) (zend_i h20_)
  · rw [if_neg hc] at h6_
    refine z_aload_n hX dX5_takeOperator_150 rfl 151 rfl ?_
    refine z_iconst hX dX5_takeOperator_151 qi_2 152 rfl ?_
    obtain ⟨v21_, M22_, hq, h23_⟩ := zcIM_of h6_
    refine z_callV hX vX5_fails lX5_94 dX5_takeOperator_152 zs_47 rfl (mX5_fails  hq) (by decide) rfl rfl (Nat.le_of_ble_eq_true rfl) 155 rfl (Qi.to (fun v' M' hv => ?_))
    cases hv
    obtain ⟨hb, h24_⟩ := zgd h23_
    exact z_zreturn hX dX5_takeOperator_155 (zbit_or hb) (zend_i h24_)
def gX5_takeOperator_J100 (x1 : Int32) (x2 : Int32) (y1 : Int32) (M : zM) : Option (Int32 × zM) :=
  zcV (gX5_release y1 M) (fun M3_ => (if x2 = 0 then gX5_takeOperator_J135 x1 M3_
  else (if (M3_.1 47 10) ≤ 0 then gX5_takeOperator_J135 x1 M3_
  else zg (zok ((M3_.1 47 10) - 1) 72) ((if (M3_.1 49 (((M3_.1 47 10) - 1) : Int32).toNatClampNeg) = 4 then zcIM (gX5_fails 1 M3_) (fun v26_ M27_ => zg (zbit v26_) (some (v26_, M27_)))
  else gX5_takeOperator_J135 x1 M3_)))))
set_option maxRecDepth 100000 in
set_option maxHeartbeats 2000000 in
theorem aX5_takeOperator_J100 {G : zG} {X : zX} {x1 : Int32} {x2 : Int32} {y1 : Int32} (hX : zC G X cX5_takeOperator 3 RX5 (some .boolean) 3)   {M : zM} {res : (Int32 × zM)}  (h : gX5_takeOperator_J100 x1 x2 y1 M = some res) : Z G X (zQi res) 100 [some (.ref 47), some (.int x1), some (.int x2)] [.int y1, .ref 47] M := by
  unfold gX5_takeOperator_J100 at h
  obtain ⟨M3_, hq, h4_⟩ := zcV_of h
  refine z_callV hX vX5_release lX5_187 dX5_takeOperator_100 zs_47 rfl (mX5_release  hq) (by decide) rfl rfl (Nat.le_of_ble_eq_true rfl) 103 rfl (Qv.to (fun M' hv => ?_))
  subst hv
  refine z_iload_n hX dX5_takeOperator_103 rfl 104 rfl ?_
  refine z_if_eq hX dX5_takeOperator_104 135 107 (by decide) rfl (fun hc => ?_) (fun hc => ?_)
  · rw [if_pos hc] at h4_
    refine z_mask [true, true, false] ?_
    have hz := aX5_takeOperator_J135 hX h4_
    exact hz
  · rw [if_neg hc] at h4_
    refine z_aload_n hX dX5_takeOperator_107 rfl 108 rfl ?_
    refine z_getI hX fX5_174 dX5_takeOperator_108 zs_47 (by decide) rfl 111 rfl ?_
    refine z_if_le hX dX5_takeOperator_111 135 114 (by decide) rfl (fun hc => ?_) (fun hc => ?_)
    · rw [if_pos hc] at h4_
      refine z_mask [true, true, false] ?_
      have hz := aX5_takeOperator_J135 hX h4_
      exact hz
    · rw [if_neg hc] at h4_
      refine z_aload_n hX dX5_takeOperator_114 rfl 115 rfl ?_
      refine z_getF hX fX5_26 dX5_takeOperator_115 zs_47 (by decide) rfl 118 rfl ?_
      refine z_aload_n hX dX5_takeOperator_118 rfl 119 rfl ?_
      refine z_getI hX fX5_174 dX5_takeOperator_119 zs_47 (by decide) rfl 122 rfl ?_
      refine z_iconst hX dX5_takeOperator_122 qi_1 123 rfl ?_
      refine z_isub hX dX5_takeOperator_123 124 rfl ?_
      obtain ⟨hb, h25_⟩ := zgd h4_
      refine z_iald hX dX5_takeOperator_124 zs_49 (zok_in hb) 125 rfl ?_
      refine z_iconst hX dX5_takeOperator_125 qi_4 126 rfl ?_
      refine z_icmp_ne hX dX5_takeOperator_126 135 129 (by decide) rfl (fun hc => ?_) (fun hc => ?_)
      · rw [if_neg hc] at h25_
        refine z_mask [true, true, false] ?_
        have hz := aX5_takeOperator_J135 hX h25_
        exact hz
      · rw [if_pos hc] at h25_
        refine z_aload_n hX dX5_takeOperator_129 rfl 130 rfl ?_
        refine z_iconst hX dX5_takeOperator_130 qi_1 131 rfl ?_
        obtain ⟨v26_, M27_, hq, h28_⟩ := zcIM_of h25_
        refine z_callV hX vX5_fails lX5_94 dX5_takeOperator_131 zs_47 rfl (mX5_fails  hq) (by decide) rfl rfl (Nat.le_of_ble_eq_true rfl) 134 rfl (Qi.to (fun v' M' hv => ?_))
        cases hv
        obtain ⟨hb, h29_⟩ := zgd h28_
        exact z_zreturn hX dX5_takeOperator_134 (zbit_or hb) (zend_i h29_)
def gX5_takeOperator_J89 (x1 : Int32) (y0 : Int32) (M : zM) : Option (Int32 × zM) :=
  (if y0 = 0 then gX5_takeOperator_J100 x1 y0 x1 M
  else gX5_takeOperator_J100 x1 y0 5 M)
set_option maxRecDepth 100000 in
set_option maxHeartbeats 2000000 in
theorem aX5_takeOperator_J89 {G : zG} {X : zX} {x1 : Int32} {y0 : Int32} (hX : zC G X cX5_takeOperator 3 RX5 (some .boolean) 3)   {M : zM} {res : (Int32 × zM)}  (h : gX5_takeOperator_J89 x1 y0 M = some res) : Z G X (zQi res) 89 [some (.ref 47), some (.int x1), none] [.int y0] M := by
  unfold gX5_takeOperator_J89 at h
  refine z_istore_n hX dX5_takeOperator_89 (by decide) 90 rfl ?_
  refine z_aload_n hX dX5_takeOperator_90 rfl 91 rfl ?_
  refine z_iload_n hX dX5_takeOperator_91 rfl 92 rfl ?_
  refine z_if_eq hX dX5_takeOperator_92 99 95 (by decide) rfl (fun hc => ?_) (fun hc => ?_)
  · rw [if_pos hc] at h
    refine z_iload_n hX dX5_takeOperator_99 rfl 100 rfl ?_
    refine z_mask [true, true, true] ?_
    have hz := aX5_takeOperator_J100 hX h
    exact hz
  · rw [if_neg hc] at h
    refine z_iconst hX dX5_takeOperator_95 qi_5 96 rfl ?_
    refine z_goto hX dX5_takeOperator_96 100 (by decide) ?_
    refine z_mask [true, true, true] ?_
    have hz := aX5_takeOperator_J100 hX h
    exact hz
def gX5_takeOperator_J67 (y0 : Int32) (M : zM) : Option (Int32 × zM) :=
  (if 1 ≤ y0 then (if y0 = 4 then gX5_takeOperator_J89 y0 1 M
  else gX5_takeOperator_J89 y0 0 M)
  else zcIM (gX5_fails 1 M) (fun v30_ M31_ => zg (zbit v30_) (some (v30_, M31_))))
set_option maxRecDepth 100000 in
set_option maxHeartbeats 2000000 in
theorem aX5_takeOperator_J67 {G : zG} {X : zX} {y0 : Int32} (hX : zC G X cX5_takeOperator 3 RX5 (some .boolean) 3)   {M : zM} {res : (Int32 × zM)}  (h : gX5_takeOperator_J67 y0 M = some res) : Z G X (zQi res) 67 [some (.ref 47), none, none] [.int y0] M := by
  unfold gX5_takeOperator_J67 at h
  refine z_istore_n hX dX5_takeOperator_67 (by decide) 68 rfl ?_
  refine z_iload_n hX dX5_takeOperator_68 rfl 69 rfl ?_
  refine z_iconst hX dX5_takeOperator_69 qi_1 70 rfl ?_
  refine z_icmp_ge hX dX5_takeOperator_70 79 73 (by decide) rfl (fun hc => ?_) (fun hc => ?_)
  · rw [if_pos hc] at h
    refine z_iload_n hX dX5_takeOperator_79 rfl 80 rfl ?_
    refine z_iconst hX dX5_takeOperator_80 qi_4 81 rfl ?_
    refine z_icmp_ne hX dX5_takeOperator_81 88 84 (by decide) rfl (fun hc => ?_) (fun hc => ?_)
    · rw [if_neg hc] at h
      refine z_iconst hX dX5_takeOperator_88 qi_0 89 rfl ?_
      refine z_mask [true, true, false] ?_
      have hz := aX5_takeOperator_J89 hX h
      exact hz
    · rw [if_pos hc] at h
      refine z_iconst hX dX5_takeOperator_84 qi_1 85 rfl ?_
      refine z_goto hX dX5_takeOperator_85 89 (by decide) ?_
      refine z_mask [true, true, false] ?_
      have hz := aX5_takeOperator_J89 hX h
      exact hz
  · rw [if_neg hc] at h
    refine z_aload_n hX dX5_takeOperator_73 rfl 74 rfl ?_
    refine z_iconst hX dX5_takeOperator_74 qi_1 75 rfl ?_
    obtain ⟨v30_, M31_, hq, h32_⟩ := zcIM_of h
    refine z_callV hX vX5_fails lX5_94 dX5_takeOperator_75 zs_47 rfl (mX5_fails  hq) (by decide) rfl rfl (Nat.le_of_ble_eq_true rfl) 78 rfl (Qi.to (fun v' M' hv => ?_))
    cases hv
    obtain ⟨hb, h33_⟩ := zgd h32_
    exact z_zreturn hX dX5_takeOperator_78 (zbit_or hb) (zend_i h33_)
def gX5_takeOperator_J47 (M : zM) : Option (Int32 × zM) :=
  (if (M.1 47 5) = 28 then gX5_takeOperator_J67 0 M
  else zcI (gX5_levelOf (M.1 47 5) M) (fun v1_ => gX5_takeOperator_J67 v1_ M))
set_option maxRecDepth 100000 in
set_option maxHeartbeats 2000000 in
theorem aX5_takeOperator_J47 {G : zG} {X : zX} (hX : zC G X cX5_takeOperator 3 RX5 (some .boolean) 3)   {M : zM} {res : (Int32 × zM)}  (h : gX5_takeOperator_J47 M = some res) : Z G X (zQi res) 47 [some (.ref 47), none, none] [] M := by
  unfold gX5_takeOperator_J47 at h
  refine z_aload_n hX dX5_takeOperator_47 rfl 48 rfl ?_
  refine z_getI hX fX5_51 dX5_takeOperator_48 zs_47 (by decide) rfl 51 rfl ?_
  refine z_bipush hX dX5_takeOperator_51 qb_28 53 rfl ?_
  refine z_icmp_ne hX dX5_takeOperator_53 60 56 (by decide) rfl (fun hc => ?_) (fun hc => ?_)
  · rw [if_neg hc] at h
    refine z_aload_n hX dX5_takeOperator_60 rfl 61 rfl ?_
    refine z_getI hX fX5_51 dX5_takeOperator_61 zs_47 (by decide) rfl 64 rfl ?_
    obtain ⟨v1_, hq, h2_⟩ := zcI_of h
    refine z_callS hX vX5_levelOf rfl lX5_206 dX5_takeOperator_64 (mX5_levelOf  hq) (by decide) rfl rfl (Nat.le_of_ble_eq_true rfl) 67 rfl (Qi.to (fun v' M' hv => ?_))
    obtain ⟨rfl, rfl⟩ := hv
    refine z_mask [true, false, false] ?_
    have hz := aX5_takeOperator_J67 hX h2_
    exact hz
  · rw [if_pos hc] at h
    refine z_iconst hX dX5_takeOperator_56 qi_0 57 rfl ?_
    refine z_goto hX dX5_takeOperator_57 67 (by decide) ?_
    refine z_mask [true, false, false] ?_
    have hz := aX5_takeOperator_J67 hX h
    exact hz
def gX5_takeOperator (M : zM) : Option (Int32 × zM) :=
  (if (M.1 47 5) = 6 then (if (M.1 47 11) ≤ 0 then gX5_takeOperator_J47 M
  else zcV (gX5_release 1 M) (fun M34_ => zlet (zI M34_ 47 11 ((M34_.1 47 11) - 1)) (fun M36_ => zlet (zI M36_ 47 10 (if 0 < ((M36_.1 47 10) - 1) then ((M36_.1 47 10) - 1) else 0)) (fun M38_ => some (1, M38_)))))
  else gX5_takeOperator_J47 M)
set_option maxRecDepth 100000 in
set_option maxHeartbeats 2000000 in
theorem mX5_takeOperator {G : zG}  {M : zM}  {res : (Int32 × zM)} (h : gX5_takeOperator M = some res) : Ct G 3 tX5_takeOperator [.ref 47] M (zQi res) := by
  unfold gX5_takeOperator at h
  refine Ct.of (y := yX5_takeOperator) rfl plX5 (Nat.le_of_ble_eq_true rfl) (fun X hX => ?_)
  replace hX : zC G X cX5_takeOperator 3 RX5 (some .boolean) 3 := hX
  show Z G X _ 0 [some (.ref 47), none, none] [] M
  refine z_aload_n hX dX5_takeOperator_0 rfl 1 rfl ?_
  refine z_getI hX fX5_51 dX5_takeOperator_1 zs_47 (by decide) rfl 4 rfl ?_
  refine z_bipush hX dX5_takeOperator_4 qb_6 6 rfl ?_
  refine z_icmp_ne hX dX5_takeOperator_6 47 9 (by decide) rfl (fun hc => ?_) (fun hc => ?_)
  · rw [if_neg hc] at h
    refine z_mask [true, false, false] ?_
    have hz := aX5_takeOperator_J47 hX h
    exact hz
  · rw [if_pos hc] at h
    refine z_aload_n hX dX5_takeOperator_9 rfl 10 rfl ?_
    refine z_getI hX fX5_177 dX5_takeOperator_10 zs_47 (by decide) rfl 13 rfl ?_
    refine z_if_le hX dX5_takeOperator_13 47 16 (by decide) rfl (fun hc => ?_) (fun hc => ?_)
    · rw [if_pos hc] at h
      refine z_mask [true, false, false] ?_
      have hz := aX5_takeOperator_J47 hX h
      exact hz
    · rw [if_neg hc] at h
      refine z_aload_n hX dX5_takeOperator_16 rfl 17 rfl ?_
      refine z_iconst hX dX5_takeOperator_17 qi_1 18 rfl ?_
      obtain ⟨M34_, hq, h35_⟩ := zcV_of h
      refine z_callV hX vX5_release lX5_187 dX5_takeOperator_18 zs_47 rfl (mX5_release  hq) (by decide) rfl rfl (Nat.le_of_ble_eq_true rfl) 21 rfl (Qv.to (fun M' hv => ?_))
      subst hv
      refine z_aload_n hX dX5_takeOperator_21 rfl 22 rfl ?_
      refine z_dup hX dX5_takeOperator_22 rfl 23 rfl ?_
      refine z_getI hX fX5_177 dX5_takeOperator_23 zs_47 (by decide) rfl 26 rfl ?_
      refine z_iconst hX dX5_takeOperator_26 qi_1 27 rfl ?_
      refine z_isub hX dX5_takeOperator_27 28 rfl ?_
      refine z_putI hX pX5_177 dX5_takeOperator_28 zs_47 (by decide) rfl 31 rfl ?_
      refine z_mem h35_ (fun M36_ h37_ => ?_)
      refine z_aload_n hX dX5_takeOperator_31 rfl 32 rfl ?_
      refine z_iconst hX dX5_takeOperator_32 qi_0 33 rfl ?_
      refine z_aload_n hX dX5_takeOperator_33 rfl 34 rfl ?_
      refine z_getI hX fX5_174 dX5_takeOperator_34 zs_47 (by decide) rfl 37 rfl ?_
      refine z_iconst hX dX5_takeOperator_37 qi_1 38 rfl ?_
      refine z_isub hX dX5_takeOperator_38 39 rfl ?_
      refine z_max hX dX5_takeOperator_39 lX5_217 (by decide) (Nat.le_of_ble_eq_true rfl) 42 rfl ?_
      refine z_putI hX pX5_174 dX5_takeOperator_42 zs_47 (by decide) rfl 45 rfl ?_
      refine z_mem h37_ (fun M38_ h39_ => ?_)
      refine z_iconst hX dX5_takeOperator_45 qi_1 46 rfl ?_
      exact z_zreturn hX dX5_takeOperator_46 (by decide) (zend_i h39_)
def gX5_takeOpen (M : zM) : Option (Int32 × zM) :=
  (if (M.1 47 11) < 8 then zlet (zI M 47 11 ((M.1 47 11) + 1)) (fun M1_ => zlet (zI M1_ 47 13 1) (fun M3_ => zcV (gX5_putWaiting 0 M3_) (fun M5_ => some (1, M5_))))
  else zcIM (gX5_fails 2 M) (fun v7_ M8_ => zg (zbit v7_) (some (v7_, M8_))))
set_option maxRecDepth 100000 in
set_option maxHeartbeats 2000000 in
theorem mX5_takeOpen {G : zG}  {M : zM}  {res : (Int32 × zM)} (h : gX5_takeOpen M = some res) : Ct G 2 tX5_takeOpen [.ref 47] M (zQi res) := by
  unfold gX5_takeOpen at h
  refine Ct.of (y := yX5_takeOpen) rfl plX5 (Nat.le_of_ble_eq_true rfl) (fun X hX => ?_)
  replace hX : zC G X cX5_takeOpen 1 RX5 (some .boolean) 2 := hX
  show Z G X _ 0 [some (.ref 47)] [] M
  refine z_aload_n hX dX5_takeOpen_0 rfl 1 rfl ?_
  refine z_getI hX fX5_177 dX5_takeOpen_1 zs_47 (by decide) rfl 4 rfl ?_
  refine z_bipush hX dX5_takeOpen_4 qb_8 6 rfl ?_
  refine z_icmp_lt hX dX5_takeOpen_6 15 9 (by decide) rfl (fun hc => ?_) (fun hc => ?_)
  · rw [if_pos hc] at h
    refine z_aload_n hX dX5_takeOpen_15 rfl 16 rfl ?_
    refine z_dup hX dX5_takeOpen_16 rfl 17 rfl ?_
    refine z_getI hX fX5_177 dX5_takeOpen_17 zs_47 (by decide) rfl 20 rfl ?_
    refine z_iconst hX dX5_takeOpen_20 qi_1 21 rfl ?_
    refine z_iadd hX dX5_takeOpen_21 22 rfl ?_
    refine z_putI hX pX5_177 dX5_takeOpen_22 zs_47 (by decide) rfl 25 rfl ?_
    refine z_mem h (fun M1_ h2_ => ?_)
    refine z_aload_n hX dX5_takeOpen_25 rfl 26 rfl ?_
    refine z_iconst hX dX5_takeOpen_26 qi_1 27 rfl ?_
    refine z_putZ hX pX5_184 dX5_takeOpen_27 zs_47 (by decide) rfl (by decide) 30 rfl ?_
    refine z_mem h2_ (fun M3_ h4_ => ?_)
    refine z_aload_n hX dX5_takeOpen_30 rfl 31 rfl ?_
    refine z_iconst hX dX5_takeOpen_31 qi_0 32 rfl ?_
    obtain ⟨M5_, hq, h6_⟩ := zcV_of h4_
    refine z_callV hX vX5_putWaiting lX5_210 dX5_takeOpen_32 zs_47 rfl (mX5_putWaiting  hq) (by decide) rfl rfl (Nat.le_of_ble_eq_true rfl) 35 rfl (Qv.to (fun M' hv => ?_))
    subst hv
    refine z_iconst hX dX5_takeOpen_35 qi_1 36 rfl ?_
    exact z_zreturn hX dX5_takeOpen_36 (by decide) (zend_i h6_)
  · rw [if_neg hc] at h
    refine z_aload_n hX dX5_takeOpen_9 rfl 10 rfl ?_
    refine z_iconst hX dX5_takeOpen_10 qi_2 11 rfl ?_
    obtain ⟨v7_, M8_, hq, h9_⟩ := zcIM_of h
    refine z_callV hX vX5_fails lX5_94 dX5_takeOpen_11 zs_47 rfl (mX5_fails  hq) (by decide) rfl rfl (Nat.le_of_ble_eq_true rfl) 14 rfl (Qi.to (fun v' M' hv => ?_))
    cases hv
    obtain ⟨hb, h10_⟩ := zgd h9_
    exact z_zreturn hX dX5_takeOpen_14 (zbit_or hb) (zend_i h10_)
def gX5_takeOperand_J120 (M : zM) : Option (Int32 × zM) :=
  zcIM (gX5_fails 2 M) (fun v17_ M18_ => zg (zbit v17_) (some (v17_, M18_)))
set_option maxRecDepth 100000 in
set_option maxHeartbeats 2000000 in
theorem aX5_takeOperand_J120 {G : zG} {X : zX} (hX : zC G X cX5_takeOperand 4 RX5 (some .boolean) 3)   {M : zM} {res : (Int32 × zM)}  (h : gX5_takeOperand_J120 M = some res) : Z G X (zQi res) 120 [some (.ref 47), none, none, none] [] M := by
  unfold gX5_takeOperand_J120 at h
  refine z_aload_n hX dX5_takeOperand_120 rfl 121 rfl ?_
  refine z_iconst hX dX5_takeOperand_121 qi_2 122 rfl ?_
  obtain ⟨v17_, M18_, hq, h19_⟩ := zcIM_of h
  refine z_callV hX vX5_fails lX5_94 dX5_takeOperand_122 zs_47 rfl (mX5_fails  hq) (by decide) rfl rfl (Nat.le_of_ble_eq_true rfl) 125 rfl (Qi.to (fun v' M' hv => ?_))
  cases hv
  obtain ⟨hb, h20_⟩ := zgd h19_
  exact z_zreturn hX dX5_takeOperand_125 (zbit_or hb) (zend_i h20_)
def gX5_takeOperand_J105 (x1 : Int32) (M : zM) : Option (Int32 × zM) :=
  zgP (M.2.2 47 3) (fun p1_ => (if (M.1 (p1_ + 14) 0) < 64 then zgP (M.2.2 47 3) (fun p3_ => zlet (zI M (p3_ + 14) 0 ((M.1 (p3_ + 14) 0) + 1)) (fun M5_ => (if x1 = 0 then zgP (M5_.2.2 47 3) (fun p7_ => zcV (gX1_tell p7_ (M5_.1 47 5) (M5_.1 47 7) M5_) (fun M9_ => zlet (zI M9_ 47 12 0) (fun M11_ => some (1, M11_))))
  else zcI (gX5_levelOf (M5_.1 47 5) M5_) (fun v13_ => zcV (gX5_putWaiting v13_ M5_) (fun M15_ => some (1, M15_))))))
  else gX5_takeOperand_J120 M))
set_option maxRecDepth 100000 in
set_option maxHeartbeats 2000000 in
theorem aX5_takeOperand_J105 {G : zG} {X : zX} {x1 : Int32} (hX : zC G X cX5_takeOperand 4 RX5 (some .boolean) 3)   {M : zM} {res : (Int32 × zM)}  (h : gX5_takeOperand_J105 x1 M = some res) : Z G X (zQi res) 105 [some (.ref 47), some (.int x1), none, none] [] M := by
  unfold gX5_takeOperand_J105 at h
  refine z_aload_n hX dX5_takeOperand_105 rfl 106 rfl ?_
  obtain ⟨p1_, hm, hp1_, h2_⟩ := zgP_of h
  refine z_getR hX fX5_29 dX5_takeOperand_106 zs_47 (by decide) rfl hm 109 rfl ?_
  refine z_getF hX fX5_164 dX5_takeOperand_109 (zsP0 hp1_) (by decide) rfl 112 rfl ?_
  refine z_getI hX fX5_203 dX5_takeOperand_112 (zsP14 hp1_) (by decide) rfl 115 rfl ?_
  refine z_bipush hX dX5_takeOperand_115 qb_64 117 rfl ?_
  refine z_icmp_lt hX dX5_takeOperand_117 126 120 (by decide) rfl (fun hc => ?_) (fun hc => ?_)
  · rw [if_pos hc] at h2_
    refine z_aload_n hX dX5_takeOperand_126 rfl 127 rfl ?_
    obtain ⟨p3_, hm, hp3_, h4_⟩ := zgP_of h2_
    refine z_getR hX fX5_29 dX5_takeOperand_127 zs_47 (by decide) rfl hm 130 rfl ?_
    refine z_getF hX fX5_164 dX5_takeOperand_130 (zsP0 hp3_) (by decide) rfl 133 rfl ?_
    refine z_dup hX dX5_takeOperand_133 rfl 134 rfl ?_
    refine z_getI hX fX5_203 dX5_takeOperand_134 (zsP14 hp3_) (by decide) rfl 137 rfl ?_
    refine z_iconst hX dX5_takeOperand_137 qi_1 138 rfl ?_
    refine z_iadd hX dX5_takeOperand_138 139 rfl ?_
    refine z_putI hX pX5_203 dX5_takeOperand_139 (zsP14 hp3_) (by decide) rfl 142 rfl ?_
    refine z_mem h4_ (fun M5_ h6_ => ?_)
    refine z_iload_n hX dX5_takeOperand_142 rfl 143 rfl ?_
    refine z_if_eq hX dX5_takeOperand_143 160 146 (by decide) rfl (fun hc => ?_) (fun hc => ?_)
    · rw [if_pos hc] at h6_
      refine z_aload_n hX dX5_takeOperand_160 rfl 161 rfl ?_
      obtain ⟨p7_, hm, hp7_, h8_⟩ := zgP_of h6_
      refine z_getR hX fX5_29 dX5_takeOperand_161 zs_47 (by decide) rfl hm 164 rfl ?_
      refine z_getF hX fX5_164 dX5_takeOperand_164 (zsP0 hp7_) (by decide) rfl 167 rfl ?_
      refine z_aload_n hX dX5_takeOperand_167 rfl 168 rfl ?_
      refine z_getI hX fX5_51 dX5_takeOperand_168 zs_47 (by decide) rfl 171 rfl ?_
      refine z_aload_n hX dX5_takeOperand_171 rfl 172 rfl ?_
      refine z_getI hX fX5_73 dX5_takeOperand_172 zs_47 (by decide) rfl 175 rfl ?_
      obtain ⟨M9_, hq, h10_⟩ := zcV_of h8_
      refine z_callV hX vX1_tell lX5_213 dX5_takeOperand_175 (zsP14 hp7_) rfl (mX1_tell hp7_ hq) (by decide) rfl rfl (Nat.le_of_ble_eq_true rfl) 178 rfl (Qv.to (fun M' hv => ?_))
      subst hv
      refine z_aload_n hX dX5_takeOperand_178 rfl 179 rfl ?_
      refine z_iconst hX dX5_takeOperand_179 qi_0 180 rfl ?_
      refine z_putZ hX pX5_180 dX5_takeOperand_180 zs_47 (by decide) rfl (by decide) 183 rfl ?_
      refine z_mem h10_ (fun M11_ h12_ => ?_)
      refine z_iconst hX dX5_takeOperand_183 qi_1 184 rfl ?_
      exact z_zreturn hX dX5_takeOperand_184 (by decide) (zend_i h12_)
    · rw [if_neg hc] at h6_
      refine z_aload_n hX dX5_takeOperand_146 rfl 147 rfl ?_
      refine z_aload_n hX dX5_takeOperand_147 rfl 148 rfl ?_
      refine z_getI hX fX5_51 dX5_takeOperand_148 zs_47 (by decide) rfl 151 rfl ?_
      obtain ⟨v13_, hq, h14_⟩ := zcI_of h6_
      refine z_callS hX vX5_levelOf rfl lX5_206 dX5_takeOperand_151 (mX5_levelOf  hq) (by decide) rfl rfl (Nat.le_of_ble_eq_true rfl) 154 rfl (Qi.to (fun v' M' hv => ?_))
      obtain ⟨rfl, rfl⟩ := hv
      obtain ⟨M15_, hq, h16_⟩ := zcV_of h14_
      refine z_callV hX vX5_putWaiting lX5_210 dX5_takeOperand_154 zs_47 rfl (mX5_putWaiting  hq) (by decide) rfl rfl (Nat.le_of_ble_eq_true rfl) 157 rfl (Qv.to (fun M' hv => ?_))
      subst hv
      refine z_goto hX dX5_takeOperand_157 183 (by decide) ?_
      refine z_iconst hX dX5_takeOperand_183 qi_1 184 rfl ?_
      exact z_zreturn hX dX5_takeOperand_184 (by decide) (zend_i h16_)
  · rw [if_neg hc] at h2_
    refine z_mask [true, false, false, false] ?_
    have hz := aX5_takeOperand_J120 hX h2_
    exact hz
def gX5_takeOperand_J91 (x1 : Int32) (x2 : Int32) (M : zM) : Option (Int32 × zM) :=
  (if x2 = 0 then gX5_takeOperand_J105 x1 M
  else (if 9999 < (M.1 47 7) then gX5_takeOperand_J120 M
  else gX5_takeOperand_J105 x1 M))
set_option maxRecDepth 100000 in
set_option maxHeartbeats 2000000 in
theorem aX5_takeOperand_J91 {G : zG} {X : zX} {x1 : Int32} {x2 : Int32} (hX : zC G X cX5_takeOperand 4 RX5 (some .boolean) 3)   {M : zM} {res : (Int32 × zM)}  (h : gX5_takeOperand_J91 x1 x2 M = some res) : Z G X (zQi res) 91 [some (.ref 47), some (.int x1), some (.int x2), none] [] M := by
  unfold gX5_takeOperand_J91 at h
  refine z_iload_n hX dX5_takeOperand_91 rfl 92 rfl ?_
  refine z_if_eq hX dX5_takeOperand_92 105 95 (by decide) rfl (fun hc => ?_) (fun hc => ?_)
  · rw [if_pos hc] at h
    refine z_mask [true, true, false, false] ?_
    have hz := aX5_takeOperand_J105 hX h
    exact hz
  · rw [if_neg hc] at h
    refine z_aload_n hX dX5_takeOperand_95 rfl 96 rfl ?_
    refine z_getI hX fX5_73 dX5_takeOperand_96 zs_47 (by decide) rfl 99 rfl ?_
    refine z_sipush hX dX5_takeOperand_99 qs_9999 102 rfl ?_
    refine z_icmp_gt hX dX5_takeOperand_102 120 105 (by decide) rfl (fun hc => ?_) (fun hc => ?_)
    · rw [if_pos hc] at h
      refine z_mask [true, false, false, false] ?_
      have hz := aX5_takeOperand_J120 hX h
      exact hz
    · rw [if_neg hc] at h
      refine z_mask [true, true, false, false] ?_
      have hz := aX5_takeOperand_J105 hX h
      exact hz
def gX5_takeOperand_J72 (x1 : Int32) (x2 : Int32) (y0 : Int32) (M : zM) : Option (Int32 × zM) :=
  (if x1 = 0 then (if x2 = 0 then (if y0 = 0 then zcIM (gX5_fails 1 M) (fun v21_ M22_ => zg (zbit v21_) (some (v21_, M22_)))
  else gX5_takeOperand_J91 x1 x2 M)
  else gX5_takeOperand_J91 x1 x2 M)
  else gX5_takeOperand_J91 x1 x2 M)
set_option maxRecDepth 100000 in
set_option maxHeartbeats 2000000 in
theorem aX5_takeOperand_J72 {G : zG} {X : zX} {x1 : Int32} {x2 : Int32} {y0 : Int32} (hX : zC G X cX5_takeOperand 4 RX5 (some .boolean) 3)   {M : zM} {res : (Int32 × zM)}  (h : gX5_takeOperand_J72 x1 x2 y0 M = some res) : Z G X (zQi res) 72 [some (.ref 47), some (.int x1), some (.int x2), none] [.int y0] M := by
  unfold gX5_takeOperand_J72 at h
  refine z_istore_n hX dX5_takeOperand_72 (by decide) 73 rfl ?_
  refine z_iload_n hX dX5_takeOperand_73 rfl 74 rfl ?_
  refine z_if_ne hX dX5_takeOperand_74 91 77 (by decide) rfl (fun hc => ?_) (fun hc => ?_)
  · rw [if_neg hc] at h
    refine z_mask [true, true, true, false] ?_
    have hz := aX5_takeOperand_J91 hX h
    exact hz
  · rw [if_pos hc] at h
    refine z_iload_n hX dX5_takeOperand_77 rfl 78 rfl ?_
    refine z_if_ne hX dX5_takeOperand_78 91 81 (by decide) rfl (fun hc => ?_) (fun hc => ?_)
    · rw [if_neg hc] at h
      refine z_mask [true, true, true, false] ?_
      have hz := aX5_takeOperand_J91 hX h
      exact hz
    · rw [if_pos hc] at h
      refine z_iload_n hX dX5_takeOperand_81 rfl 82 rfl ?_
      refine z_if_ne hX dX5_takeOperand_82 91 85 (by decide) rfl (fun hc => ?_) (fun hc => ?_)
      · rw [if_neg hc] at h
        refine z_mask [true, true, true, false] ?_
        have hz := aX5_takeOperand_J91 hX h
        exact hz
      · rw [if_pos hc] at h
        refine z_aload_n hX dX5_takeOperand_85 rfl 86 rfl ?_
        refine z_iconst hX dX5_takeOperand_86 qi_1 87 rfl ?_
        obtain ⟨v21_, M22_, hq, h23_⟩ := zcIM_of h
        refine z_callV hX vX5_fails lX5_94 dX5_takeOperand_87 zs_47 rfl (mX5_fails  hq) (by decide) rfl rfl (Nat.le_of_ble_eq_true rfl) 90 rfl (Qi.to (fun v' M' hv => ?_))
        cases hv
        obtain ⟨hb, h24_⟩ := zgd h23_
        exact z_zreturn hX dX5_takeOperand_90 (zbit_or hb) (zend_i h24_)
def gX5_takeOperand_J71 (x1 : Int32) (x2 : Int32) (M : zM) : Option (Int32 × zM) :=
  gX5_takeOperand_J72 x1 x2 0 M
set_option maxRecDepth 100000 in
set_option maxHeartbeats 2000000 in
theorem aX5_takeOperand_J71 {G : zG} {X : zX} {x1 : Int32} {x2 : Int32} (hX : zC G X cX5_takeOperand 4 RX5 (some .boolean) 3)   {M : zM} {res : (Int32 × zM)}  (h : gX5_takeOperand_J71 x1 x2 M = some res) : Z G X (zQi res) 71 [some (.ref 47), some (.int x1), some (.int x2), none] [] M := by
  unfold gX5_takeOperand_J71 at h
  refine z_iconst hX dX5_takeOperand_71 qi_0 72 rfl ?_
  refine z_mask [true, true, true, false] ?_
  have hz := aX5_takeOperand_J72 hX h
  exact hz
def gX5_takeOperand_J48 (x1 : Int32) (y0 : Int32) (M : zM) : Option (Int32 × zM) :=
  (if (M.1 47 5) < 19 then gX5_takeOperand_J71 x1 y0 M
  else (if 25 < (M.1 47 5) then gX5_takeOperand_J71 x1 y0 M
  else gX5_takeOperand_J72 x1 y0 1 M))
set_option maxRecDepth 100000 in
set_option maxHeartbeats 2000000 in
theorem aX5_takeOperand_J48 {G : zG} {X : zX} {x1 : Int32} {y0 : Int32} (hX : zC G X cX5_takeOperand 4 RX5 (some .boolean) 3)   {M : zM} {res : (Int32 × zM)}  (h : gX5_takeOperand_J48 x1 y0 M = some res) : Z G X (zQi res) 48 [some (.ref 47), some (.int x1), none, none] [.int y0] M := by
  unfold gX5_takeOperand_J48 at h
  refine z_istore_n hX dX5_takeOperand_48 (by decide) 49 rfl ?_
  refine z_aload_n hX dX5_takeOperand_49 rfl 50 rfl ?_
  refine z_getI hX fX5_51 dX5_takeOperand_50 zs_47 (by decide) rfl 53 rfl ?_
  refine z_bipush hX dX5_takeOperand_53 qb_19 55 rfl ?_
  refine z_icmp_lt hX dX5_takeOperand_55 71 58 (by decide) rfl (fun hc => ?_) (fun hc => ?_)
  · rw [if_pos hc] at h
    refine z_mask [true, true, true, false] ?_
    have hz := aX5_takeOperand_J71 hX h
    exact hz
  · rw [if_neg hc] at h
    refine z_aload_n hX dX5_takeOperand_58 rfl 59 rfl ?_
    refine z_getI hX fX5_51 dX5_takeOperand_59 zs_47 (by decide) rfl 62 rfl ?_
    refine z_bipush hX dX5_takeOperand_62 qb_25 64 rfl ?_
    refine z_icmp_gt hX dX5_takeOperand_64 71 67 (by decide) rfl (fun hc => ?_) (fun hc => ?_)
    · rw [if_pos hc] at h
      refine z_mask [true, true, true, false] ?_
      have hz := aX5_takeOperand_J71 hX h
      exact hz
    · rw [if_neg hc] at h
      refine z_iconst hX dX5_takeOperand_67 qi_1 68 rfl ?_
      refine z_goto hX dX5_takeOperand_68 72 (by decide) ?_
      refine z_mask [true, true, true, false] ?_
      have hz := aX5_takeOperand_J72 hX h
      exact hz
def gX5_takeOperand_J34 (y0 : Int32) (M : zM) : Option (Int32 × zM) :=
  (if (M.1 47 5) = 3 then gX5_takeOperand_J48 y0 1 M
  else gX5_takeOperand_J48 y0 0 M)
set_option maxRecDepth 100000 in
set_option maxHeartbeats 2000000 in
theorem aX5_takeOperand_J34 {G : zG} {X : zX} {y0 : Int32} (hX : zC G X cX5_takeOperand 4 RX5 (some .boolean) 3)   {M : zM} {res : (Int32 × zM)}  (h : gX5_takeOperand_J34 y0 M = some res) : Z G X (zQi res) 34 [some (.ref 47), none, none, none] [.int y0] M := by
  unfold gX5_takeOperand_J34 at h
  refine z_istore_n hX dX5_takeOperand_34 (by decide) 35 rfl ?_
  refine z_aload_n hX dX5_takeOperand_35 rfl 36 rfl ?_
  refine z_getI hX fX5_51 dX5_takeOperand_36 zs_47 (by decide) rfl 39 rfl ?_
  refine z_iconst hX dX5_takeOperand_39 qi_3 40 rfl ?_
  refine z_icmp_ne hX dX5_takeOperand_40 47 43 (by decide) rfl (fun hc => ?_) (fun hc => ?_)
  · rw [if_neg hc] at h
    refine z_iconst hX dX5_takeOperand_47 qi_0 48 rfl ?_
    refine z_mask [true, true, false, false] ?_
    have hz := aX5_takeOperand_J48 hX h
    exact hz
  · rw [if_pos hc] at h
    refine z_iconst hX dX5_takeOperand_43 qi_1 44 rfl ?_
    refine z_goto hX dX5_takeOperand_44 48 (by decide) ?_
    refine z_mask [true, true, false, false] ?_
    have hz := aX5_takeOperand_J48 hX h
    exact hz
def gX5_takeOperand_J33 (M : zM) : Option (Int32 × zM) :=
  gX5_takeOperand_J34 0 M
set_option maxRecDepth 100000 in
set_option maxHeartbeats 2000000 in
theorem aX5_takeOperand_J33 {G : zG} {X : zX} (hX : zC G X cX5_takeOperand 4 RX5 (some .boolean) 3)   {M : zM} {res : (Int32 × zM)}  (h : gX5_takeOperand_J33 M = some res) : Z G X (zQi res) 33 [some (.ref 47), none, none, none] [] M := by
  unfold gX5_takeOperand_J33 at h
  refine z_iconst hX dX5_takeOperand_33 qi_0 34 rfl ?_
  refine z_mask [true, false, false, false] ?_
  have hz := aX5_takeOperand_J34 hX h
  exact hz
def gX5_takeOperand (M : zM) : Option (Int32 × zM) :=
  (if (M.1 47 5) = 5 then zcIM (gX5_takeOpen M) (fun v25_ M26_ => zg (zbit v25_) (some (v25_, M26_)))
  else (if (M.1 47 5) = 28 then (if (M.1 47 13) = 0 then gX5_takeOperand_J33 M
  else gX5_takeOperand_J34 1 M)
  else gX5_takeOperand_J33 M))
set_option maxRecDepth 100000 in
set_option maxHeartbeats 2000000 in
theorem mX5_takeOperand {G : zG}  {M : zM}  {res : (Int32 × zM)} (h : gX5_takeOperand M = some res) : Ct G 3 tX5_takeOperand [.ref 47] M (zQi res) := by
  unfold gX5_takeOperand at h
  refine Ct.of (y := yX5_takeOperand) rfl plX5 (Nat.le_of_ble_eq_true rfl) (fun X hX => ?_)
  replace hX : zC G X cX5_takeOperand 4 RX5 (some .boolean) 3 := hX
  show Z G X _ 0 [some (.ref 47), none, none, none] [] M
  refine z_aload_n hX dX5_takeOperand_0 rfl 1 rfl ?_
  refine z_getI hX fX5_51 dX5_takeOperand_1 zs_47 (by decide) rfl 4 rfl ?_
  refine z_iconst hX dX5_takeOperand_4 qi_5 5 rfl ?_
  refine z_icmp_ne hX dX5_takeOperand_5 13 8 (by decide) rfl (fun hc => ?_) (fun hc => ?_)
  · rw [if_neg hc] at h
    refine z_aload_n hX dX5_takeOperand_13 rfl 14 rfl ?_
    refine z_getI hX fX5_51 dX5_takeOperand_14 zs_47 (by decide) rfl 17 rfl ?_
    refine z_bipush hX dX5_takeOperand_17 qb_28 19 rfl ?_
    refine z_icmp_ne hX dX5_takeOperand_19 33 22 (by decide) rfl (fun hc => ?_) (fun hc => ?_)
    · rw [if_neg hc] at h
      refine z_mask [true, false, false, false] ?_
      have hz := aX5_takeOperand_J33 hX h
      exact hz
    · rw [if_pos hc] at h
      refine z_aload_n hX dX5_takeOperand_22 rfl 23 rfl ?_
      refine z_getI hX fX5_184 dX5_takeOperand_23 zs_47 (by decide) rfl 26 rfl ?_
      refine z_if_eq hX dX5_takeOperand_26 33 29 (by decide) rfl (fun hc => ?_) (fun hc => ?_)
      · rw [if_pos hc] at h
        refine z_mask [true, false, false, false] ?_
        have hz := aX5_takeOperand_J33 hX h
        exact hz
      · rw [if_neg hc] at h
        refine z_iconst hX dX5_takeOperand_29 qi_1 30 rfl ?_
        refine z_goto hX dX5_takeOperand_30 34 (by decide) ?_
        refine z_mask [true, false, false, false] ?_
        have hz := aX5_takeOperand_J34 hX h
        exact hz
  · rw [if_pos hc] at h
    refine z_aload_n hX dX5_takeOperand_8 rfl 9 rfl ?_
    obtain ⟨v25_, M26_, hq, h27_⟩ := zcIM_of h
    refine z_callV hX vX5_takeOpen lX5_200 dX5_takeOperand_9 zs_47 rfl (mX5_takeOpen  hq) (by decide) rfl rfl (Nat.le_of_ble_eq_true rfl) 12 rfl (Qi.to (fun v' M' hv => ?_))
    cases hv
    obtain ⟨hb, h28_⟩ := zgd h27_
    exact z_zreturn hX dX5_takeOperand_12 (zbit_or hb) (zend_i h28_)
