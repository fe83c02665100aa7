/-! ===== a line's pieces, class and reference side by side ===== -/
def FS (p c k : Nat) (M M' : zM) : Prop := M'.2 = M.2 ∧ ∀ a i, ¬ ((a = 47 ∧ 4 ≤ i ∧ i ≤ 7) ∨ (a = p + c ∧ i = k)) → M'.1 a i = M.1 a i
def FW (x k : Nat) (M M' : zM) : Prop := M'.2 = M.2 ∧ ∀ a i, ¬ ((a = 98 ∧ 22 ≤ i ∧ i ≤ 27) ∨ (a = x ∧ i = k)) → M'.1 a i = M.1 a i
def cStg (c : Nat) (x : Int32) (n0 : Nat) (lo hi : Int32) (E : zM → Option (Int32 × zM)) (M : zM) : Option (Int32 × zM) := zcIM (gX5_readsNumber lo hi M) (fun v M' => if v = 0 then some (0, M') else zgP (M'.2.2 47 3) (fun p => zg (zok x n0) (zlet (zI M' (p + c) (x : Int32).toNatClampNeg (M'.1 47 7)) E)))
def rStg (a : Nat) (x : Int32) (n1 : Nat) (lo hi : Int32) (E : zM → Option zM) (M : zM) : Option zM := zcIM (gX10_numeral lo hi M) (fun v M' => zg (zok x n1) (zlet (zI M' a (x : Int32).toNatClampNeg v) E))
theorem m_numF {M : zM} {lo hi : Int32} (h : ¬ M.1 98 26 = 0) : gX10_numeral lo hi M = some (lo, M) := by unfold gX10_numeral; rw [if_neg h]
theorem rStg_F {a n1 k : Nat} {lo hi : Int32} {E : zM → Option zM} {M : zM} (hk : k < n1) (hn : n1 < 1000) (h : ¬ M.1 98 26 = 0) : rStg a (nI k) n1 lo hi E M = E (zI M a k lo) := by
  unfold rStg
  rw [zcIM_some (m_numF h), zg_true (zok_nI hk (by omega)), zlet_eq, nI_cl (by omega)]
theorem jStg {Mc Mm : zM} {p N z j lo hi c k n0 a k1 n1 : Nat} {b : Nat → Nat} {E : zM → Option (Int32 × zM)} {E' : zM → Option zM} (hTX : TX N z b) (hX : cX Mc p N z b j) (hR : rX Mm N b j) (hj : j ≤ z) (hhi : hi ≤ 99999) (hlo : lo ≤ hi) (hk : k < n0) (hn0 : n0 < 1000) (hk1 : k1 < n1) (hn1 : n1 < 1000) (hc : c ≤ 20) (ha : 100 ≤ a) :
    (∃ f, fOk f ∧ (∃ Mc', cStg c (nI k) n0 (nI lo) (nI hi) E Mc = some (0, Mc') ∧ cF Mc' N b f j ∧ FQ Mc Mc') ∧ ∃ Mm', rStg a (nI k1) n1 (nI lo) (nI hi) E' Mm = E' Mm' ∧ rF Mm' N b f j ∧ FW a k1 Mm Mm') ∨
    (∃ x, lo ≤ x ∧ x ≤ hi ∧ j < z ∧ (∃ Mc', cStg c (nI k) n0 (nI lo) (nI hi) E Mc = E Mc' ∧ cX Mc' p N z b (j + 1) ∧ Mc'.1 (p + c) k = nI x ∧ FS p c k Mc Mc') ∧ ∃ Mm', rStg a (nI k1) n1 (nI lo) (nI hi) E' Mm = E' Mm' ∧ rX Mm' N b (j + 1) ∧ Mm'.1 a k1 = nI x ∧ FW a k1 Mm Mm') := by
  have hp := isPl_lt hX.1
  rcases jNum hTX hX hR hj hhi hlo with ⟨f, hf, ⟨Mc', a1, a2, a3⟩, Mm', b1, b2, b3⟩ | ⟨x, hx1, hx2, hjz, ⟨Mc', a1, a2, a3, a4⟩, Mm', b1, b2, b3⟩
  · refine Or.inl ⟨f, hf, ⟨Mc', ?_, a2, a3⟩, zI Mm' a k1 (nI lo), ?_, ⟨?_, ?_⟩, b3.1, fun u i q => ?_⟩
    · unfold cStg
      rw [zcIM_some a1, if_pos rfl]
    · unfold rStg
      rw [zcIM_some b1, zg_true (zok_nI hk1 (by omega)), zlet_eq, nI_cl (by omega)]
    · rw [zI_of (by omega)]; exact b2.1
    · rw [zI_of (by omega)]; exact b2.2
    · rw [zI_of (by omega), b3.2 u i (by omega)]
  · refine Or.inr ⟨x, hx1, hx2, hjz, ⟨zI Mc' (p + c) k (nI x), ?_, ?_, zI_at, a4.1, fun u i q => ?_⟩, zI Mm' a k1 (nI x), ?_, ⟨?_, ?_⟩, zI_at, b3.1, fun u i q => ?_⟩
    · unfold cStg
      rw [zcIM_some a1, if_neg (by decide), zgP_some a2.2.1 a2.1, zg_true (zok_nI hk (by omega)), zlet_eq, nI_cl (by omega), a3]
    · exact ⟨a2.1, a2.2.1, a2.2.2.1.mono (fun u i q1 q2 => zI_of (by omega)), by rw [zI_of (by omega)]; exact a2.2.2.2⟩
    · rw [zI_of (by omega), a4.2 u i (by omega)]
    · unfold rStg
      rw [zcIM_some b1, zg_true (zok_nI hk1 (by omega)), zlet_eq, nI_cl (by omega)]
    · rw [zI_of (by omega)]; exact b2.1
    · exact b2.2.mono (zI_of (by omega)) (fun i _ _ => zI_of (by omega)) (fun i => zI_of (by omega))
    · rw [zI_of (by omega), b3.2 u i (by omega)]
/-- the sign at a line's end -/
def cEnd (M : zM) : Option (Int32 × zM) := zcIM (gX5_reads 4 M) (fun v M' => zg (zbit v) (some (v, M')))
def lnX (M M' : zM) : Prop := M'.1 98 20 = M.1 98 20 + 1
theorem jEnd {Mc Mm : zM} {p N z j : Nat} {b : Nat → Nat} (hTX : TX N z b) (hX : cX Mc p N z b j) (hR : rX Mm N b j) (hj : j ≤ z) :
    (∃ f, fOk f ∧ (∃ Mc', cEnd Mc = some (0, Mc') ∧ cF Mc' N b f j ∧ FQ Mc Mc') ∧ ∃ Mm', gX10_line_J458 Mm = some Mm' ∧ rF Mm' N b f j ∧ FW 98 20 Mm Mm') ∨
    (j < z ∧ (∃ Mc', cEnd Mc = some (1, Mc') ∧ cX Mc' p N z b (j + 1) ∧ FA Mc Mc') ∧ ∃ Mm', gX10_line_J458 Mm = some Mm' ∧ rX Mm' N b (j + 1) ∧ lnX Mm Mm' ∧ FW 98 20 Mm Mm') := by
  have ht := hTX.1
  obtain ⟨r1, r2⟩ := c_reads (k0 := 4) ht hTX.2.1 hX hj (by omega)
  unfold gX10_line_J458 cEnd
  rw [if_pos hR.1, zcI_some (m_isS ht hR.1 hR.2 st59)]
  by_cases h4 : tk N b j = 4
  · obtain ⟨M1, a1, a2, a3⟩ := r1 h4
    obtain ⟨M43, b1, b2, b3⟩ := m_tokX ht hR
    rw [decide_eq_true h4, if_neg (by decide), zcV_some b1, zcIM_some (show gX5_reads 4 Mc = _ from a1), zb1]
    unfold gX10_line_J487
    rw [zlet_eq]
    refine Or.inr ⟨hTX.lt hj (by omega), ⟨M1, rfl, hX.q a3.Q a2.1, a3⟩, _, rfl, ⟨by rw [zI_of (by omega)]; exact b2.1, b2.2.mono (zI_of (by omega)) (fun i _ _ => zI_of (by omega)) (fun i => zI_of (by omega))⟩, ?_, b3.1, fun u i q => ?_⟩
    · unfold lnX
      rw [zI_at, b3.2 _ _ (by omega)]
    · rw [zI_of (by omega), b3.2 _ _ (by omega)]
  · obtain ⟨M1, a1, a2, a3⟩ := r2 h4
    obtain ⟨M47, b1, b2, b3⟩ := m_wrongX 1 hR
    rw [decide_eq_false h4, if_pos b2i_f, zcV_some (show gX10_wrong 1 Mm = _ from b1), zcIM_some (show gX5_reads 4 Mc = _ from a1), zb0]
    unfold gX10_line_J487
    rw [zlet_eq]
    refine Or.inl ⟨1, ⟨by omega, by omega⟩, ⟨M1, rfl, a2, a3⟩, _, rfl, ⟨?_, ?_⟩, b3.1, fun u i q => ?_⟩
    · rw [zI_of (by omega)]; exact b2.1
    · rw [zI_of (by omega)]; exact b2.2
    · rw [zI_of (by omega), b3.2 _ _ (by omega)]
theorem J458_F {M : zM} (h : ¬ M.1 98 26 = 0) : gX10_line_J458 M = some M := by unfold gX10_line_J458; rw [if_neg h]
def rEnd (w : Int32) (M : zM) : Option zM := zcI (gX10_fresher w M) (fun v => zcV (gX10_reads w (v + 1) M) (fun M' => gX10_line_J458 M'))
theorem rEnd_eq {M : zM} {w : Nat} (hw : w < 9) : rEnd (nI w) M = gX10_line_J458 (zI M 100 (9 + w) (M.1 100 (9 + w) + 1)) := by
  unfold rEnd
  rw [zcI_some (m_fresher hw), zcV_some (m_reads hw)]
theorem rEnd_F {M : zM} {w : Nat} (hw : w < 9) (h : ¬ M.1 98 26 = 0) : rEnd (nI w) M = some (zI M 100 (9 + w) (M.1 100 (9 + w) + 1)) := by
  rw [rEnd_eq hw, J458_F (by rw [zI_of (by omega)]; exact h)]
/-- a name that is none yet -/
theorem jName {Mc Mm : zM} {p N z j c n n0 a d n1 : Nat} {b : Nat → Nat} (hTX : TX N z b) (hX : cX Mc p N z b j) (hR : rX Mm N b j) (hj : j ≤ z) (hc : 1 ≤ c ∧ c ≤ 20) (hn : n ≤ n0) (hn0 : n0 < 1000) (hd : d + n ≤ n1) (hn1 : n1 < 1000) (he : ∀ k, k < n → Mc.1 (p + c) k = Mm.1 a (d + k)) (ha : 99 ≤ a) :
    (∃ f, fOk f ∧ (∃ Mc', gX5_readsNewName (p + c) n0 (nI n) Mc = some (0, Mc') ∧ cF Mc' N b f j ∧ FQ Mc Mc') ∧ ∃ Mm', gX10_fresh a n1 (nI d) (nI n) Mm = some (0, Mm') ∧ rF Mm' N b f j ∧ FN Mm Mm') ∨
    (∃ x, j < z ∧ (∃ Mc', gX5_readsNewName (p + c) n0 (nI n) Mc = some (1, Mc') ∧ cX Mc' p N z b (j + 1) ∧ Mc'.1 47 7 = x ∧ FA Mc Mc') ∧ ∃ Mm', gX10_fresh a n1 (nI d) (nI n) Mm = some (x, Mm') ∧ rX Mm' N b (j + 1) ∧ FN Mm Mm') := by
  have ht := hTX.1
  have h38 := tk_38 ht j
  have hp := isPl_lt hX.1
  obtain ⟨r1, r2⟩ := c_reads (k0 := 2) ht hTX.2.1 hX hj (by omega)
  obtain ⟨t1, t2, t3, t4⟩ := hR.2.2.2.2
  have bad : ∀ f, fOk f → (∃ Mm', gX10_wrong (nI f) Mm = some Mm' ∧ rF Mm' N b f j ∧ FN Mm Mm' ∧ gX10_fresh_J44 a n1 Mm' = some (0, Mm')) := fun f hf => by
    obtain ⟨M', g1, g2, g3⟩ := m_wrongX f hR
    refine ⟨M', g1, g2, g3, ?_⟩
    unfold gX10_fresh_J44
    rw [if_neg (rF_n0 g2 hf)]
  by_cases h2 : tk N b j = 2
  · obtain ⟨M1, a1, a2, a3⟩ := r1 h2
    have hv : Mm.1 98 25 = tv N b j := t2 h2
    have ef : ffst (fun k => M1.1 (p + c) k == tv N b j) n = ffst (fun k => Mm.1 a (d + k) == tv N b j) n := ffst_congr (fun k hk => by rw [a3.2 _ _ (by omega), he k hk])
    have ec : gX9_find (p + c) n0 (nI n) (M1.1 47 7) M1 = some (oN (ffst (fun k => Mm.1 a (d + k) == tv N b j) n)) := by rw [a2.2.2.2, s_find hn (by omega), ef]
    have em : gX10_found a n1 (nI d) (nI n) (Mm.1 98 25) Mm = some (oN (ffst (fun k => Mm.1 a (d + k) == tv N b j) n)) := by rw [hv, r_found hd (by omega)]
    unfold gX5_readsNewName gX10_fresh
    rw [zcIM_some (show gX5_reads 2 Mc = _ from a1), if_neg (by decide), zcI_some ec, if_pos hR.1, t1, if_pos ((rSo_at h38).2.2.2.1.mpr h2), zcI_some em]
    cases e : ffst (fun k => Mm.1 a (d + k) == tv N b j) n with
    | none =>
      rw [show oN none = -1 from rfl, if_pos (by decide), if_pos rfl]
      obtain ⟨M', g1, g2, g3⟩ := m_tokX ht hR
      refine Or.inr ⟨tv N b j, hTX.lt hj (by omega), ⟨M1, rfl, hX.q a3.Q a2.1, a2.2.2.2, a3⟩, M', ?_, g2, g3.N⟩
      unfold gX10_fresh_J44
      rw [if_pos hR.1, zcV_some g1, hv]
    | some m =>
      have hm := (ffst_some e).1
      rw [show oN (some m) = nI m from rfl, if_neg (nI_pos (by omega)), if_neg (nI_ne_m1 (by omega))]
      obtain ⟨M', q1, q2, q3⟩ := c_fails 3 a2
      obtain ⟨Mm', g1, g2, g3, g4⟩ := bad 3 ⟨by omega, by omega⟩
      rw [zcIM_some (show gX5_fails 3 M1 = _ from q1), if_pos rfl, zcV_some (show gX10_wrong 3 Mm = _ from g1), g4]
      exact Or.inl ⟨3, ⟨by omega, by omega⟩, ⟨M', rfl, q2, q3.1.trans a3.1, fun u i q => by rw [q3.2 u i (by omega), a3.2 u i (by omega)]⟩, Mm', rfl, g2, g3⟩
  · obtain ⟨M1, a1, a2, a3⟩ := r2 h2
    obtain ⟨Mm', g1, g2, g3, g4⟩ := bad 1 ⟨by omega, by omega⟩
    unfold gX5_readsNewName gX10_fresh
    rw [zcIM_some (show gX5_reads 2 Mc = _ from a1), if_pos rfl, if_pos hR.1, t1, if_neg (fun w => h2 ((rSo_at h38).2.2.2.1.mp w)), zcV_some (show gX10_wrong 1 Mm = _ from g1), g4]
    exact Or.inl ⟨1, ⟨by omega, by omega⟩, ⟨M1, rfl, a2, a3⟩, Mm', rfl, g2, g3⟩
/-! four numbers more -/
def P4 (P : AV) (c k : Nat) (x1 x2 x3 x4 : Int32) : AV := vset (vset (vset (vset P c k x1) (c + 1) k x2) (c + 2) k x3) (c + 3) k x4
theorem P4_old {P : AV} {c k c' k' : Nat} {x1 x2 x3 x4 : Int32} (h : ¬ (k' = k ∧ c ≤ c' ∧ c' ≤ c + 3)) : P4 P c k x1 x2 x3 x4 c' k' = P c' k' := by
  unfold P4 vset
  rw [if_neg (by omega), if_neg (by omega), if_neg (by omega), if_neg (by omega)]
theorem P4_1 {P : AV} {c k : Nat} {x1 x2 x3 x4 : Int32} : P4 P c k x1 x2 x3 x4 c k = x1 := by
  unfold P4 vset
  rw [if_neg (by omega), if_neg (by omega), if_neg (by omega), if_pos ⟨rfl, rfl⟩]
theorem P4_2 {P : AV} {c k : Nat} {x1 x2 x3 x4 : Int32} : P4 P c k x1 x2 x3 x4 (c + 1) k = x2 := by
  unfold P4 vset
  rw [if_neg (by omega), if_neg (by omega), if_pos ⟨rfl, rfl⟩]
theorem P4_3 {P : AV} {c k : Nat} {x1 x2 x3 x4 : Int32} : P4 P c k x1 x2 x3 x4 (c + 2) k = x3 := by
  unfold P4 vset
  rw [if_neg (by omega), if_pos ⟨rfl, rfl⟩]
theorem P4_4 {P : AV} {c k : Nat} {x1 x2 x3 x4 : Int32} : P4 P c k x1 x2 x3 x4 (c + 3) k = x4 := by
  unfold P4 vset
  rw [if_pos ⟨rfl, rfl⟩]
theorem pdim_n {n T L c k : Nat} (h1 : 1 ≤ c) (h : pdim (n + 1) T L c k = true) : (c ≤ 4 ∧ k = n) ∨ pdim n T L c k = true := by
  unfold pdim at h ⊢
  by_cases c4 : c ≤ 4
  · rw [if_neg (by omega), if_pos c4] at h ⊢
    have := of_decide_eq_true h
    by_cases e : k = n
    · exact Or.inl ⟨c4, e⟩
    · exact Or.inr (decide_eq_true (by omega))
  · rw [if_neg (by omega), if_neg c4] at h ⊢
    exact Or.inr h
theorem pdim_T {n T L c k : Nat} (h1 : 1 ≤ c) (h : pdim n (T + 1) L c k = true) : (5 ≤ c ∧ c ≤ 8 ∧ k = T) ∨ pdim n T L c k = true := by
  unfold pdim at h ⊢
  by_cases c4 : c ≤ 4
  · rw [if_neg (by omega), if_pos c4] at h ⊢
    exact Or.inr h
  · rw [if_neg (by omega), if_neg c4] at h ⊢
    by_cases c8 : c ≤ 8
    · rw [if_pos c8] at h ⊢
      have := of_decide_eq_true h
      by_cases e : k = T
      · exact Or.inl ⟨by omega, c8, e⟩
      · exact Or.inr (decide_eq_true (by omega))
    · rw [if_neg c8] at h ⊢
      exact Or.inr h
theorem pdim_L {n T L c k : Nat} (h1 : 1 ≤ c) (h : pdim n T (L + 1) c k = true) : (9 ≤ c ∧ c ≤ 11 ∧ k = L) ∨ pdim n T L c k = true := by
  unfold pdim at h ⊢
  by_cases c4 : c ≤ 4
  · rw [if_neg (by omega), if_pos c4] at h ⊢
    exact Or.inr h
  · rw [if_neg (by omega), if_neg c4] at h ⊢
    by_cases c8 : c ≤ 8
    · rw [if_pos c8] at h ⊢
      exact Or.inr h
    · rw [if_neg c8] at h ⊢
      by_cases c11 : c ≤ 11
      · rw [if_pos c11] at h ⊢
        have := of_decide_eq_true h
        by_cases e : k = L
        · exact Or.inl ⟨by omega, c11, e⟩
        · exact Or.inr (decide_eq_true (by omega))
      · rw [if_neg c11] at h ⊢
        exact Or.inr h
theorem pdim_lt {n T L c k : Nat} (h1 : 1 ≤ c) (h : pdim n T L c k = true) : (c ≤ 4 ∧ k < n) ∨ (5 ≤ c ∧ c ≤ 8 ∧ k < T) ∨ (9 ≤ c ∧ c ≤ 11 ∧ k < L) ∨ (c = 12 ∧ k < 5) := by
  unfold pdim at h
  rw [if_neg (by omega)] at h
  by_cases c4 : c ≤ 4
  · rw [if_pos c4] at h; have := of_decide_eq_true h; omega
  rw [if_neg c4] at h
  by_cases c8 : c ≤ 8
  · rw [if_pos c8] at h; have := of_decide_eq_true h; omega
  rw [if_neg c8] at h
  by_cases c11 : c ≤ 11
  · rw [if_pos c11] at h; have := of_decide_eq_true h; omega
  rw [if_neg c11] at h
  by_cases c12 : c = 12
  · rw [if_pos c12] at h; have := of_decide_eq_true h; omega
  rw [if_neg c12] at h; cases h
theorem pu_4 {c k : Nat} (h : c ≤ 4) : pu c k = (100 + c, 6 + k) := by unfold pu; rw [if_pos h]
theorem pu_8 {c k : Nat} (h : 5 ≤ c ∧ c ≤ 8) : pu c k = (100 + c, 8 + k) := by unfold pu; rw [if_neg (by omega), if_pos h.2]
theorem pu_11 {c k : Nat} (h : 9 ≤ c ∧ c ≤ 11) : pu c k = (100 + c, 10 + k) := by unfold pu; rw [if_neg (by omega), if_neg (by omega), if_pos h.2]
theorem pu_12 {k : Nat} : pu 12 k = (100, 12 + k) := rfl
theorem cLw.mono {M M' : zM} {p : Nat} {LW : LWr} (h : cLw M p LW) (he : ∀ a i, p + 15 ≤ a → a ≤ p + 16 → M'.1 a i = M.1 a i) : cLw M' p LW := fun j hj => ⟨fun w => by rw [he _ _ (by omega) (by omega)]; exact (h j hj).1 w, fun ae w => by rw [he _ _ (by omega) (by omega), he _ _ (by omega) (by omega)]; exact (h j hj).2 ae w⟩
theorem mLw.mono {M M' : zM} {LW : LWr} (h : mLw M LW) (he : ∀ a i, 112 ≤ a → a ≤ 113 → M'.1 a i = M.1 a i) : mLw M' LW := fun j hj => by rw [he _ _ (by omega) (by omega), he _ _ (by omega) (by omega)]; exact h j hj
theorem mTd.mono {M M' : zM} {sd : Nat → Bool} {LW : LWr} (h : mTd M sd LW) (he : M'.1 98 19 = M.1 98 19) : mTd M' sd LW := ⟨fun k hk => by rw [he]; exact h.1 k hk, fun j hj => by rw [he]; exact h.2 j hj⟩
