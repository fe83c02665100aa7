/-! ===== a line, all lines ===== -/
theorem jF.w {p N z : Nat} {b : Nat → Nat} {Mc Mm : zM} {rc : Option (Int32 × zM)} {rm : Option zM} (h : jF p N z b Mc Mm rc rm) : jF p N z b Mc Mm (zcIM rc (fun v M' => zg (zbit v) (some (v, M')))) rm := by
  obtain ⟨f, jf, h1, h2, ⟨Mc', h3, h4⟩, h5⟩ := h
  exact ⟨f, jf, h1, h2, ⟨Mc', by rw [h3, zcIM_some rfl, zb0], h4⟩, h5⟩
theorem jOK.w {p N z j : Nat} {b : Nat → Nat} {Mc Mm : zM} {rc : Option (Int32 × zM)} {rm : Option zM} (h : jOK p N z b Mc Mm j rc rm) : jOK p N z b Mc Mm j (zcIM rc (fun v M' => zg (zbit v) (some (v, M')))) rm := by
  obtain ⟨n, T, L, P, sd, LW, out, j', h1, h2, h3, ⟨Mc', h4, h5⟩, h6⟩ := h
  exact ⟨n, T, L, P, sd, LW, out, j', h1, h2, h3, ⟨Mc', by rw [h4, zcIM_some rfl, zb1], h5⟩, h6⟩
theorem jw {p N z j : Nat} {b : Nat → Nat} {Mc Mm : zM} {rc : Option (Int32 × zM)} {rm : Option zM} (h : jF p N z b Mc Mm rc rm ∨ jOK p N z b Mc Mm j rc rm) : jF p N z b Mc Mm (zcIM rc (fun v M' => zg (zbit v) (some (v, M')))) rm ∨ jOK p N z b Mc Mm j (zcIM rc (fun v M' => zg (zbit v) (some (v, M')))) rm := h.imp jF.w jOK.w
theorem jLine {Mc Mm : zM} {p N z j n T L : Nat} {b : Nat → Nat} {P : AV} {sd : Nat → Bool} {LW : LWr} {out : List (Int32 × Int32)} (hTX : TX N z b) (hX : cX Mc p N z b (j + 1)) (hA : cAtt Mc N b j) (hR : rX Mm N b j) (hj : j ≤ z) (hC : cPs Mc p n T L P sd LW out) (hM : mPs Mm n T L P sd LW out) (hI : aI n T L P LW out) :
    jF p N z b Mc Mm (gX5_readLine Mc) (gX10_line Mm) ∨ jOK p N z b Mc Mm j (gX5_readLine Mc) (gX10_line Mm) := by
  have ht := hTX.1
  have h38 := tk_38 ht j
  have k5 := hA.2.1
  by_cases hs : 10 ≤ tk N b j ∧ tk N b j ≤ 14
  · have e : gX5_readLine Mc = zcIM (gX5_readSetting (nI (tk N b j - 10)) Mc) (fun v M' => zg (zbit v) (some (v, M'))) := by
      unfold gX5_readLine
      rw [k5, if_neg (show ¬ nI (tk N b j) < 10 from fun q => by have := (nI_lt_iff (b := 10) (by omega) (by omega)).mp q; omega), if_neg (show ¬ 14 < nI (tk N b j) from fun q => by have := (nI_lt_iff (a := 14) (by omega) (by omega)).mp q; omega), show (10 : Int32) = nI 10 by decide, nI_sub hs.1]
    rw [e]
    exact jw (jSet hTX hX hA hR hj (s := tk N b j - 10) (by omega) (by omega) hC hM hI)
  · have e : gX5_readLine Mc = gX5_readLine_J30 Mc := by
      unfold gX5_readLine
      rw [k5]
      by_cases w : tk N b j < 10
      · rw [if_pos (show nI (tk N b j) < 10 from (nI_lt_iff (b := 10) (by omega) (by omega)).mpr w)]
      · rw [if_neg (show ¬ nI (tk N b j) < 10 from fun q => by have := (nI_lt_iff (b := 10) (by omega) (by omega)).mp q; omega), if_pos (show 14 < nI (tk N b j) from (nI_lt_iff (a := 14) (by omega) (by omega)).mpr (by omega))]
    have ne : ∀ k : Nat, k < 100 → tk N b j ≠ k → ¬ nI (tk N b j) = nI k := fun k hk q => cl_ne h38 hk q
    rw [e]
    unfold gX5_readLine_J30
    rw [k5]
    by_cases h7 : tk N b j = 7
    · rw [if_pos (by rw [h7]; decide)]
      exact jw (jMan hTX hX hA hR hj h7 hC hM hI)
    rw [if_neg (show ¬ nI (tk N b j) = 7 from ne 7 (by omega) h7)]
    by_cases h8 : tk N b j = 8
    · rw [if_pos (by rw [h8]; decide)]
      exact jw (jThing hTX hX hA hR hj h8 hC hM hI)
    rw [if_neg (show ¬ nI (tk N b j) = 8 from ne 8 (by omega) h8)]
    by_cases h9 : tk N b j = 9
    · rw [if_pos (by rw [h9]; decide)]
      exact jw (jLook hTX hX hA hR hj h9 hC hM hI)
    rw [if_neg (show ¬ nI (tk N b j) = 9 from ne 9 (by omega) h9), if_neg (show ¬ nI (tk N b j) = 10 from ne 10 (by omega) (by omega)), if_neg (show ¬ nI (tk N b j) = 11 from ne 11 (by omega) (by omega)), if_neg (show ¬ nI (tk N b j) = 12 from ne 12 (by omega) (by omega)), if_neg (show ¬ nI (tk N b j) = 13 from ne 13 (by omega) (by omega)), if_neg (show ¬ nI (tk N b j) = 14 from ne 14 (by omega) (by omega))]
    by_cases h15 : tk N b j = 15
    · rw [if_pos (by rw [h15]; decide)]
      exact jw (jLaw hTX hX hA hR hj h15 hC hM hI)
    rw [if_neg (show ¬ nI (tk N b j) = 15 from ne 15 (by omega) h15)]
    left
    obtain ⟨Mc', q1, q2, q3⟩ := c_fails 1 hA
    obtain ⟨Mm', r1, r2, r3⟩ := m_line_bad ht hR (by omega)
    unfold gX5_readLine_J104
    rw [zcIM_some (show gX5_fails 1 Mc = _ from q1), zb0]
    exact ⟨1, j, ⟨by omega, by omega⟩, hj, ⟨Mc', rfl, q2, q3.1, fun a i q => q3.2 a i (by omega)⟩, Mm', r1, r2, r3.R⟩
theorem jLoop {p N z : Nat} {b : Nat → Nat} (hTX : TX N z b) : ∀ (d : Nat) (Mc Mm : zM) (j l n T L n1 n2 : Nat) (P : AV) (sd : Nat → Bool) (LW : LWr) (out : List (Int32 × Int32)), z - j ≤ d → d < n1 → d + 1 < n2 → cX Mc p N z b j → rX Mm N b j → j ≤ z → l ≤ j → Mm.1 98 20 = nI l → cPs Mc p n T L P sd LW out → mPs Mm n T L P sd LW out → aI n T L P LW out →
    (∃ f jf Mc' Mm', fOk f ∧ zfix n1 (gX5_read_L39 p) (nI l, Mc) = some (-1, Mc') ∧ cF Mc' N b f jf ∧ FrC p Mc Mc' ∧ zfix n2 gX10_text_L136 Mm = gX10_text_J158 Mm' ∧ rF Mm' N b f jf ∧ FrR Mm Mm') ∨
    (∃ l' Mc' Mm' n T L P sd LW out, l' ≤ 700 ∧ aI n T L P LW out ∧ zfix n1 (gX5_read_L39 p) (nI l, Mc) = some (nI l', Mc') ∧ cPs Mc' p n T L P sd LW out ∧ FrC p Mc Mc' ∧ (Mc'.1 47 0 = Mc.1 47 0 ∧ Mc'.1 47 1 = Mc.1 47 1) ∧ zfix n2 gX10_text_L136 Mm = gX10_text_J158 Mm' ∧ (Mm'.1 98 26 = 0 ∧ Mm'.1 98 27 = -1 ∧ Mm'.1 98 20 = nI l') ∧ mPs Mm' n T L P sd LW out ∧ FrR Mm Mm') := by
  have ht := hTX.1
  have hz := hTX.2.1
  intro d
  induction d with
  | zero =>
    intro Mc Mm j l n T L n1 n2 P sd LW out hd hn1 hn2 hX hR hj hl h20 hC hM hI
    obtain ⟨n1, rfl⟩ : ∃ m, n1 = m + 1 := ⟨n1 - 1, by omega⟩
    obtain ⟨n2, rfl⟩ : ∃ m, n2 = m + 1 := ⟨n2 - 1, by omega⟩
    have ez : j = z := by omega
    have k0 : tk N b j = 0 := by rw [ez]; exact hTX.2.2
    have hp := isPl_lt hX.1
    obtain ⟨M1, a1, a2, a3⟩ := c_adv hz hX.2.2.1 hX.2.2.2 hj
    obtain ⟨C1, C2, C3, C4, C5, C6⟩ := hC
    refine Or.inr ⟨l, M1, Mm, n, T, L, P, sd, LW, out, by omega, hI, ?_, ⟨⟨?_, ?_, ?_⟩, fun c k hc hd => ?_, fun k hk => ?_, C4.mono (fun a i q1 q2 => a3.2 a i (by omega)), C5.mono (a3.2 _ _ (by omega)) (fun i => a3.2 _ _ (by omega)) (fun i => a3.2 _ _ (by omega)), by rw [a3.2 _ _ (by omega)]; exact C6⟩, a3.Q.C, ⟨a3.2 _ _ (by omega), a3.2 _ _ (by omega)⟩, ?_, ⟨hR.1, hR.2.1.2, h20⟩, hM, FrR.rf⟩
    · rw [zfix_succ]
      unfold gX5_read_L39
      dsimp only
      rw [lit700, if_neg (show ¬ nI 700 < nI l by rw [nI_lt_iff (by omega) (by omega)]; omega), zcV_some a1, a2.2.1, k0, if_pos (by decide)]
    · rw [a3.2 _ _ (by omega)]; exact C1.1
    · rw [a3.2 _ _ (by omega)]; exact C1.2.1
    · rw [a3.2 _ _ (by omega)]; exact C1.2.2
    · have := pdim_lt hc hd
      rw [a3.2 _ _ (by omega)]; exact C2 c k hc hd
    · rw [a3.2 _ _ (by omega)]; exact C3 k hk
    · rw [zfix_succ]
      unfold gX10_text_L136
      rw [if_pos hR.1, hR.2.2.2.2.1, k0, if_pos (by decide)]
  | succ d ih =>
    intro Mc Mm j l n T L n1 n2 P sd LW out hd hn1 hn2 hX hR hj hl h20 hC hM hI
    by_cases k0 : tk N b j = 0
    · obtain ⟨n1, rfl⟩ : ∃ m, n1 = m + 1 := ⟨n1 - 1, by omega⟩
      obtain ⟨n2, rfl⟩ : ∃ m, n2 = m + 1 := ⟨n2 - 1, by omega⟩
      have hp := isPl_lt hX.1
      obtain ⟨M1, a1, a2, a3⟩ := c_adv hz hX.2.2.1 hX.2.2.2 hj
      obtain ⟨C1, C2, C3, C4, C5, C6⟩ := hC
      refine Or.inr ⟨l, M1, Mm, n, T, L, P, sd, LW, out, by omega, hI, ?_, ⟨⟨?_, ?_, ?_⟩, fun c k hc hd => ?_, fun k hk => ?_, C4.mono (fun a i q1 q2 => a3.2 a i (by omega)), C5.mono (a3.2 _ _ (by omega)) (fun i => a3.2 _ _ (by omega)) (fun i => a3.2 _ _ (by omega)), by rw [a3.2 _ _ (by omega)]; exact C6⟩, a3.Q.C, ⟨a3.2 _ _ (by omega), a3.2 _ _ (by omega)⟩, ?_, ⟨hR.1, hR.2.1.2, h20⟩, hM, FrR.rf⟩
      · rw [zfix_succ]
        unfold gX5_read_L39
        dsimp only
        rw [lit700, if_neg (show ¬ nI 700 < nI l by rw [nI_lt_iff (by omega) (by omega)]; omega), zcV_some a1, a2.2.1, k0, if_pos (by decide)]
      · rw [a3.2 _ _ (by omega)]; exact C1.1
      · rw [a3.2 _ _ (by omega)]; exact C1.2.1
      · rw [a3.2 _ _ (by omega)]; exact C1.2.2
      · have := pdim_lt hc hd
        rw [a3.2 _ _ (by omega)]; exact C2 c k hc hd
      · rw [a3.2 _ _ (by omega)]; exact C3 k hk
      · rw [zfix_succ]
        unfold gX10_text_L136
        rw [if_pos hR.1, hR.2.2.2.2.1, k0, if_pos (by decide)]
    · have h38 := tk_38 ht j
      have hp := isPl_lt hX.1
      obtain ⟨n1, rfl⟩ : ∃ m, n1 = m + 1 := ⟨n1 - 1, by omega⟩
      obtain ⟨n2, rfl⟩ : ∃ m, n2 = m + 1 + 1 := ⟨n2 - 2, by omega⟩
      obtain ⟨M1, a1, a2, a3⟩ := c_adv hz hX.2.2.1 hX.2.2.2 hj
      have X1 : cX M1 p N z b (j + 1) := hX.q a3.Q a2.1
      have C' : cPs M1 p n T L P sd LW out := by
        obtain ⟨C1, C2, C3, C4, C5, C6⟩ := hC
        refine ⟨⟨by rw [a3.2 _ _ (by omega)]; exact C1.1, by rw [a3.2 _ _ (by omega)]; exact C1.2.1, by rw [a3.2 _ _ (by omega)]; exact C1.2.2⟩, fun c k hc hd => ?_, fun k hk => by rw [a3.2 _ _ (by omega)]; exact C3 k hk, C4.mono (fun a i q1 q2 => a3.2 a i (by omega)), C5.mono (a3.2 _ _ (by omega)) (fun i => a3.2 _ _ (by omega)) (fun i => a3.2 _ _ (by omega)), by rw [a3.2 _ _ (by omega)]; exact C6⟩
        have := pdim_lt hc hd
        rw [a3.2 _ _ (by omega)]; exact C2 c k hc hd
      have eC : ∀ rc, gX5_read_L39 p rc (nI l, Mc) = zcIM (gX5_readLine M1) (fun v M' => if v = 0 then some (-1, M') else rc (nI l + 1, M')) := fun rc => by
        unfold gX5_read_L39
        dsimp only
        rw [lit700, if_neg (show ¬ nI 700 < nI l by rw [nI_lt_iff (by omega) (by omega)]; omega), zcV_some a1, a2.2.1, if_neg (show ¬ nI (tk N b j) = 0 from cl_ne (k := 0) h38 (by omega) k0)]
      have eM : ∀ rc, gX10_text_L136 rc Mm = zcV (gX10_line Mm) (fun M' => rc M') := fun rc => by
        unfold gX10_text_L136
        rw [if_pos hR.1, hR.2.2.2.2.1, if_neg (fun w => k0 ((rSo_at h38).2.2.2.2.mp w))]
      rw [zfix_succ, zfix_succ, eC, eM]
      rcases jLine hTX X1 a2 hR hj C' hM hI with ⟨f, jf, hf, hjf, ⟨Mc', q1, q2, q3⟩, Mm', r1, r2, r3⟩ | ⟨n', T', L', P', sd', LW', out', j', hjj, hjz, hI', ⟨Mc', q1, q2, q3, q4, q5, q6⟩, Mm', r1, r2, r3, r4, r5⟩
      · left
        rw [q1, zcIM_some rfl, if_pos rfl, r1, zcV_some rfl, zfix_succ]
        refine ⟨f, jf, Mc', Mm', hf, rfl, q2, a3.Q.C.tr q3, ?_, r2, r3⟩
        unfold gX10_text_L136
        rw [if_neg (rF_n0 r2 hf)]
      · rw [q1, zcIM_some rfl, if_neg (by decide), r1, zcV_some rfl, nI_1]
        have e20 : Mm'.1 98 20 = nI (l + 1) := by unfold lnX at r4; rw [r4, h20, nI_1]
        rcases ih Mc' Mm' j' (l + 1) n' T' L' n1 (n2 + 1) P' sd' LW' out' (by omega) (by omega) (by omega) q2 r2 hjz (by omega) e20 q3 r3 hI' with ⟨f, jf, Mc2, Mm2, s0, s1, s2, s3, s4, s5, s6⟩ | ⟨l', Mc2, Mm2, n2', T2, L2, P2, sd2, LW2, out2, s0, s1, s2, s3, s4, s5, s6, s7, s8, s9⟩
        · exact Or.inl ⟨f, jf, Mc2, Mm2, s0, s1, s2, (a3.Q.C.tr q4).tr s3, s4, s5, r5.tr s6⟩
        · exact Or.inr ⟨l', Mc2, Mm2, n2', T2, L2, P2, sd2, LW2, out2, s0, s1, s2, s3, (a3.Q.C.tr q4).tr s4, ⟨by rw [s5.1, q5, a3.2 _ _ (by omega)], by rw [s5.2, q6, a3.2 _ _ (by omega)]⟩, s6, s7, s8, r5.tr s9⟩
/-! ===== a plan made empty ===== -/
def P00 : AV := fun c k => if c = 12 then zc0 k else 0
theorem aI_0 : aI 0 0 0 P00 (fun _ => none) [] := by
  refine ⟨⟨by omega, by omega, by omega, by show 0 ≤ 64; omega⟩, fun k hk => absurd hk (by omega), fun k hk => absurd hk (by omega), fun k hk => absurd hk (by omega), ⟨0, by omega, rfl⟩, ⟨0, by omega, rfl⟩, fun j hj ae w => by cases w⟩
theorem c_clear1 {M : zM} {p : Nat} (hp : p ≤ 26) : ∃ M', gX1_clear p M = some M' ∧ M'.2 = M.2 ∧ (M'.1 (p + 14) 0 = 0 ∧ M'.1 (p + 14) 1 = 0 ∧ ∀ j, j < 3 → M'.1 (p + 15) j = -1) ∧ ∀ a i, ¬ (p + 14 ≤ a ∧ a ≤ p + 16) → M'.1 a i = M.1 a i := by
  unfold gX1_clear
  rw [zlet_eq, zlet_eq]
  obtain ⟨s', N', ⟨e1, e2, e3, e4, e5⟩, hz⟩ := zfix_inv (B := gX1_clear_L12 p) (fun k (s : Int32 × zM) => s.1 = nI k ∧ s.2.2 = M.2 ∧ (∀ a i, ¬ (p + 14 ≤ a ∧ a ≤ p + 16) → s.2.1 a i = M.1 a i) ∧ (s.2.1 (p + 14) 0 = 0 ∧ s.2.1 (p + 14) 1 = 0) ∧ ∀ j, j < k → s.2.1 (p + 15) j = -1) 3 (by
    intro k hk s ⟨q1, q2, q3, q4, q5⟩
    obtain ⟨i, Mk⟩ := s
    dsimp only at q1 q2 q3 q4 q5
    subst q1
    refine ⟨(nI (k + 1), zI (zI Mk (p + 15) k (-1)) (p + 16) k (-1)), ⟨rfl, q2, fun a i w => ?_, ⟨?_, ?_⟩, fun j hj => ?_⟩, fun rc => ?_⟩
    · dsimp only
      rw [zI_of (by omega), zI_of (by omega)]; exact q3 a i w
    · dsimp only
      rw [zI_of (by omega), zI_of (by omega)]; exact q4.1
    · dsimp only
      rw [zI_of (by omega), zI_of (by omega)]; exact q4.2
    · dsimp only
      by_cases e : j = k
      · subst e; rw [zI_of (by omega), zI_at]
      · rw [zI_of (by omega), zI_of (by omega)]; exact q5 j (by omega)
    · unfold gX1_clear_L12
      dsimp only
      rw [nI_lit3, if_neg (nI_ge hk (by omega)), zg_true (zok_nI hk (by omega)), zlet_eq, zg_true (zok_nI hk (by omega)), zlet_eq, nI_cl (by omega), nI_1]) 3 0 zFu (0, zI (zI M (p + 14) 0 0) (p + 14) 1 0) (by omega) (by unfold zFu; omega) ⟨nI_0.symm, rfl, fun a i w => by dsimp only; rw [zI_of (by omega), zI_of (by omega)], ⟨by dsimp only; rw [zI_of (by omega), zI_at], by dsimp only; rw [zI_at]⟩, fun j hj => absurd hj (by omega)⟩
  refine ⟨s'.2, ?_, e2, ⟨e4.1, e4.2, e5⟩, e3⟩
  rw [hz]
  unfold gX1_clear_L12
  rw [e1, nI_lit3, if_pos (nI_le (Nat.le_refl _) (by omega))]
theorem c_clear {M : zM} {p : Nat} (hp : p ≤ 26) : ∃ M', gX3_clear p M = some M' ∧ cPs M' p 0 0 0 P00 (fun _ => false) (fun _ => none) [] ∧ FrC p M M' ∧ ∀ a i, 47 ≤ a → M'.1 a i = M.1 a i := by
  unfold gX3_clear
  rw [zlet_eq, zlet_eq, zlet_eq]
  obtain ⟨s', N', ⟨e1, e2, e3, e4, e5⟩, hz⟩ := zfix_inv (B := gX3_clear_L17 p) (fun k (s : Int32 × zM) => s.1 = nI k ∧ s.2.2 = M.2 ∧ (∀ a i, ¬ (p ≤ a ∧ a ≤ p + 20) → s.2.1 a i = M.1 a i) ∧ (s.2.1 p 0 = 0 ∧ s.2.1 p 5 = 0 ∧ s.2.1 p 10 = 0) ∧ ∀ j, j < k → s.2.1 (p + 12) j = zc0 j ∧ s.2.1 (p + 13) j = 0) 5 (by
    intro k hk s ⟨q1, q2, q3, q4, q5⟩
    obtain ⟨i, Mk⟩ := s
    dsimp only at q1 q2 q3 q4 q5
    subst q1
    refine ⟨(nI (k + 1), zI (zI Mk (p + 12) k (zc0 k)) (p + 13) k 0), ⟨rfl, q2, fun a i w => ?_, ⟨?_, ?_, ?_⟩, fun j hj => ?_⟩, fun rc => ?_⟩
    · dsimp only
      rw [zI_of (by omega), zI_of (by omega)]; exact q3 a i w
    · dsimp only
      rw [zI_of (by omega), zI_of (by omega)]; exact q4.1
    · dsimp only
      rw [zI_of (by omega), zI_of (by omega)]; exact q4.2.1
    · dsimp only
      rw [zI_of (by omega), zI_of (by omega)]; exact q4.2.2
    · dsimp only
      by_cases e : j = k
      · subst e
        exact ⟨by rw [zI_of (by omega), zI_at], zI_at⟩
      · rw [zI_of (by omega), zI_of (by omega), zI_of (by omega), zI_of (by omega)]; exact q5 j (by omega)
    · unfold gX3_clear_L17
      dsimp only
      rw [show (5 : Int32) = nI 5 by decide, if_neg (nI_ge hk (by omega)), zg_true (zok_nI hk (by omega)), zg_true (zok_nI hk (by omega)), zlet_eq, zg_true (zok_nI hk (by omega)), zlet_eq, nI_cl (by omega), nI_1, show vp_nar .boolean (0 : Int32) = 0 by decide]) 5 0 zFu (0, zI (zI (zI M p 0 0) p 5 0) p 10 0) (by omega) (by unfold zFu; omega) ⟨nI_0.symm, rfl, fun a i w => by dsimp only; rw [zI_of (by omega), zI_of (by omega), zI_of (by omega)], ⟨by dsimp only; rw [zI_of (by omega), zI_of (by omega), zI_at], by dsimp only; rw [zI_of (by omega), zI_at], by dsimp only; rw [zI_at]⟩, fun j hj => absurd hj (by omega)⟩
  obtain ⟨M', g1, g2, ⟨g3, g4, g5⟩, g6⟩ := c_clear1 (M := s'.2) hp
  refine ⟨M', ?_, ⟨⟨?_, ?_, ?_⟩, fun c k hc hd => ?_, fun k hk => ?_, fun j hj => ⟨fun _ => g5 j hj, fun ae w => by cases w⟩, ⟨g4.trans nI_0.symm, fun k hk => absurd hk (by show ¬ k < 0; omega)⟩, g3.trans nI_0.symm⟩, ⟨g2.trans e2, fun a i q => ?_⟩, fun a i q => ?_⟩
  · rw [hz]
    unfold gX3_clear_L17
    rw [e1, show (5 : Int32) = nI 5 by decide, if_pos (nI_le (Nat.le_refl _) (by omega)), zcV_some g1]
  · rw [g6 _ _ (by omega)]; exact e4.1.trans nI_0.symm
  · rw [g6 _ _ (by omega)]; exact e4.2.1.trans nI_0.symm
  · rw [g6 _ _ (by omega)]; exact e4.2.2.trans nI_0.symm
  · have lt := pdim_lt hc hd
    obtain ⟨rfl, hk⟩ : c = 12 ∧ k < 5 := by omega
    rw [g6 _ _ (by omega), (e5 k hk).1]
    rfl
  · rw [g6 _ _ (by omega), (e5 k hk).2]
    rfl
  · rw [g6 a i (by omega), e3 a i (by omega)]
  · rw [g6 a i (by omega), e3 a i (by omega)]
