theorem c_read {M : zM} {s N z : Nat} {b : Nat → Nat} (hTX : TX N z b) (hs : zisPl s = true) (hzN : z ≤ N) (hz1 : ∀ j, j < z → tk N b j ≠ 0) (hb : ∀ i, i < N → M.1 1 i &&& 255 = nI (b i) ∧ (M.1 1 i = 32 ↔ b i = 32) ∧ (M.1 1 i = 10 ↔ b i = 10)) :
    ∃ M13, gX5_read (nI N) s M = zfix zFu (gX5_read_L39 s) (0, M13) ∧ cX M13 s N z b 0 ∧ cPs M13 s 0 0 0 P00 (fun _ => false) (fun _ => none) [] ∧ (M13.1 47 0 = 0 ∧ M13.1 47 1 = -1) ∧ (∀ a i, ¬ ((47 ≤ a ∧ a ≤ 53) ∨ (s ≤ a ∧ a ≤ s + 20)) → M13.1 a i = M.1 a i) ∧ ∀ a, a ≠ 47 → a ≠ 50 → M13.2.2 a = M.2.2 a := by
  have hs26 := isPl_lt hs
  have h5 := zisPl_of hs
  unfold isPl at h5
  unfold gX5_read
  rw [zlet_eq, zlet_eq, zlet_eq, zgP_some (show (zF (zI (zI M 47 0 0) 47 1 (-1)) 47 3 s).2.2 47 3 = some s from zF_at) hs]
  obtain ⟨M9, c1, c2, c3, c4⟩ := c_clear (M := zF (zI (zI M 47 0 0) 47 1 (-1)) 47 3 s) hs26
  have m9 : ∀ a i, ¬ ((a = 47 ∧ i ≤ 1) ∨ (s ≤ a ∧ a ≤ s + 20)) → M9.1 a i = M.1 a i := fun a i q => by
    by_cases w : 47 ≤ a
    · rw [c4 a i w]
      show (zI (zI M 47 0 0) 47 1 (-1)).1 a i = _
      rw [zI_of (by omega), zI_of (by omega)]
    · rw [c3.2 a i (by omega)]
      show (zI (zI M 47 0 0) 47 1 (-1)).1 a i = _
      rw [zI_of (by omega), zI_of (by omega)]
  obtain ⟨M11, s1, s2, s3, s4, s5, s6⟩ := c_scan (M := M9) hTX.1 (fun i hi => by rw [m9 1 i (by omega)]; exact hb i hi) hzN hTX.2.2 hz1
  rw [zcV_some c1, zcV_some s1, zlet_eq]
  have k13 : ∀ a i, ¬ ((50 ≤ a ∧ a ≤ 53) ∨ (a = 47 ∧ i = 4)) → (zI M11 47 4 0).1 a i = M9.1 a i := fun a i q => by rw [zI_of (by omega), s2 a i (by omega)]
  have r9 : M9.2 = (zF (zI (zI M 47 0 0) 47 1 (-1)) 47 3 s).2 := c3.1
  obtain ⟨C1, C2, C3, C4, C5, C6⟩ := c2
  refine ⟨_, rfl, ⟨hs, ?_, ⟨?_, fun j hj => ?_⟩, zI_at.trans nI_0.symm⟩, ⟨⟨?_, ?_, ?_⟩, fun c k hc hd => ?_, fun k hk => ?_, C4.mono (fun a i q1 q2 => k13 a i (by omega)), C5.mono (k13 _ _ (by omega)) (fun i => k13 _ _ (by omega)) (fun i => k13 _ _ (by omega)), by rw [k13 _ _ (by omega)]; exact C6⟩, ⟨?_, ?_⟩, fun a i q => ?_, fun a q1 q2 => ?_⟩
  · show M11.2.2 47 3 = some s
    rw [s4 47 (by omega), r9]
    exact zF_at
  · rw [zI_of (by omega)]; exact s5
  · rw [zI_of (by omega), zI_of (by omega), zI_of (by omega)]
    exact s6 j hj
  · rw [k13 _ _ (by omega)]; exact C1.1
  · rw [k13 _ _ (by omega)]; exact C1.2.1
  · rw [k13 _ _ (by omega)]; exact C1.2.2
  · have := pdim_lt hc hd
    rw [k13 _ _ (by omega)]; exact C2 c k hc hd
  · rw [k13 _ _ (by omega)]; exact C3 k hk
  · rw [k13 _ _ (by omega), c4 47 0 (by omega)]
    show (zI (zI M 47 0 0) 47 1 (-1)).1 47 0 = 0
    rw [zI_of (by omega), zI_at]
  · rw [k13 _ _ (by omega), c4 47 1 (by omega)]
    show (zI (zI M 47 0 0) 47 1 (-1)).1 47 1 = -1
    rw [zI_at]
  · rw [k13 a i (by omega), m9 a i (by omega)]
  · show M11.2.2 a = M.2.2 a
    rw [s4 a q2, r9]
    funext i
    exact zF_of (by omega)
theorem m_read {M : zM} {N T2 : Nat} {b : Nat → Nat} (ht : tB N b) (h2 : M.1 98 2 = nI T2) (hT : N ≤ T2) (hT7 : T2 ≤ 700) (hB : ∀ i, i < N → M.1 99 i = nI (b i)) :
    ∃ M21, gX10_text (nI N) M = zfix zFu gX10_text_L136 M21 ∧ rX M21 N b 0 ∧ mPs M21 0 0 0 P00 (fun _ => false) (fun _ => none) [] ∧ M21.1 98 20 = nI 0 ∧ M21.2 = M.2 ∧ M21.1 98 2 = 0 ∧ ∀ a i, ¬ (FRc a i ∨ (a = 98 ∧ (i = 0 ∨ i = 2 ∨ i = 21))) → M21.1 a i = M.1 a i := by
  unfold gX10_text
  rw [zlet_eq, if_neg (nI_pos (by omega)), zI_of (by omega), h2, if_pos (nI_le hT (by omega)), zlet_eq, zlet_eq, zlet_eq, zlet_eq, zlet_eq]
  have k : ∀ a i, ¬ (a = 98 ∧ (i = 0 ∨ i = 21 ∨ i = 2 ∨ i = 22 ∨ i = 26 ∨ i = 27)) → (zI (zI (zI (zI (zI (zI M 98 0 0) 98 21 (nI N)) 98 2 0) 98 22 0) 98 26 0) 98 27 (-1)).1 a i = M.1 a i := fun a i q => by rw [zI_of (by omega), zI_of (by omega), zI_of (by omega), zI_of (by omega), zI_of (by omega), zI_of (by omega)]
  obtain ⟨M21, g1, g2, g3, g4, g5⟩ := m_init (M := zI (zI (zI (zI (zI (zI M 98 0 0) 98 21 (nI N)) 98 2 0) 98 22 0) 98 26 0) 98 27 (-1)) ht (fun i hi => by rw [k _ _ (by omega)]; exact hB i hi) (by rw [zI_of (by omega), zI_of (by omega), zI_of (by omega), zI_of (by omega), zI_at]) (by rw [zI_of (by omega), zI_of (by omega), zI_at]) (by rw [zI_of (by omega), zI_at]) zI_at
  refine ⟨M21, g1, g2, g3, g4, g5.1, ?_, fun a i q => ?_⟩
  · rw [g5.2 _ _ (by unfold FRc; omega), zI_of (by omega), zI_of (by omega), zI_of (by omega), zI_at]
  · rw [g5.2 a i (fun w => q (Or.inl w)), k a i (fun w => q (by unfold FRc; omega))]
theorem nI_le_of {x : Int32} {T2 : Nat} (hT : T2 ≤ 700) (h0 : ¬ x < 0) (h : x ≤ nI T2) : ∃ N, N ≤ T2 ∧ x = nI N := by
  have e : (nI T2).toInt = T2 := nI_toInt (by omega)
  rw [Int32.lt_iff_toInt_lt] at h0
  rw [Int32.le_iff_toInt_le, e] at h
  have z : (0 : Int32).toInt = 0 := rfl
  refine ⟨x.toInt.toNat, by omega, ?_⟩
  apply Int32.toInt_inj.mp
  rw [nI_toInt (by omega)]
  omega
theorem k_text {M : zM} (h : Rel M) (x : Int32) : ∃ r M1 M2, gX9_text x M = some (r, M1) ∧ gX10_text x M1 = some (r, M2) ∧ Rel M2 := by
  obtain ⟨q, V, I, D, S, B, F, hA, hCR, hMR⟩ := h
  have hTp : mTp M B := hMR.2.2.2.2.2.2.1
  have hB7 := hA.2.2.2.2.2
  have no : gX9_text x M = some (-2, M) → (x < 0 ∨ ¬ x ≤ nI B.1) → ∃ r M1 M2, gX9_text x M = some (r, M1) ∧ gX10_text x M1 = some (r, M2) ∧ Rel M2 := fun h1 h2 => by
    refine ⟨-2, M, zI M 98 0 0, h1, ?_, q, V, I, D, S, B, F, hA, hCR.mono (fun a i w _ => zI_of (by unfold dC at w; omega)) (fun a _ _ => rfl), hMR.mono (fun a i w => zI_of (by unfold dM at w; omega))⟩
    unfold gX10_text
    rw [zlet_eq, zI_of (by omega), hTp.1]
    rcases h2 with w | w
    · rw [if_pos w]
    · rw [if_neg w]
      exact ite_self _
  obtain ⟨p, hrf, hpl, hcV, hcI, hcD, hcS, hcT, hcF⟩ := hCR
  by_cases x0 : x < 0
  · refine no ?_ (Or.inl x0)
    unfold gX9_text
    rw [if_pos x0]
  by_cases xC : ¬ x ≤ nI B.1
  · refine no ?_ (Or.inr xC)
    unfold gX9_text
    rw [if_neg x0, hcT.1, if_neg xC]
  have xB : x ≤ nI B.1 := Decidable.not_not.mp xC
  obtain ⟨N, hN, rfl⟩ := nI_le_of hB7.1 x0 xB
  obtain ⟨s, hr3, hsp, hs⟩ := hrf.2.2
  have hs5 := zisPl_of hs
  have hp5 := zisPl_of hpl.1.1
  unfold isPl at hs5 hp5
  have hb : ∀ i, i < B.1 → B.2 i = nI (B.2 i).toNatClampNeg ∧ (B.2 i).toNatClampNeg ≤ 255 := fun i hi => by
    obtain ⟨v, v1, v2⟩ := hB7.2 i hi
    rw [v2, nI_cl (by omega)]
    exact ⟨rfl, v1⟩
  have ht : tB N (fun i => (B.2 i).toNatClampNeg) := ⟨by omega, fun i hi => (hb i (by omega)).2⟩
  obtain ⟨z, hzN, hz0, hz1⟩ := end_ex ht
  have hTX : TX N z (fun i => (B.2 i).toNatClampNeg) := ⟨ht, by have := ht.1; omega, hz0⟩
  have hbytes : ∀ i, i < N → (zI M 0 1 0).1 1 i &&& 255 = nI ((B.2 i).toNatClampNeg) ∧ ((zI M 0 1 0).1 1 i = 32 ↔ (B.2 i).toNatClampNeg = 32) ∧ ((zI M 0 1 0).1 1 i = 10 ↔ (B.2 i).toNatClampNeg = 10) := fun i hi => by
    rw [zI_of (by omega)]
    obtain ⟨c1, w, c2⟩ := hcT.2 i (by omega)
    have bb := hb i (by omega)
    have bi := byte_iff w
    rw [← c2, c1, bb.1] at bi
    refine ⟨c1.trans bb.1, bi.1.trans ?_, bi.2.trans ?_⟩
    · exact Iff.of_eq (nI_eqs (b := 32) (by omega) (by omega))
    · exact Iff.of_eq (nI_eqs (b := 10) (by omega) (by omega))
  obtain ⟨M13, r1, r2, r3, r4, r5, r6⟩ := c_read (M := zI M 0 1 0) hTX hs hzN hz1 hbytes
  have eT : gX9_text (nI N) M = zcIM (zfix zFu (gX5_read_L39 s) (0, M13)) (fun v M6 => cT9 v M6) := by
    unfold gX9_text
    rw [if_neg x0, hcT.1, if_pos xB, zlet_eq, zgP_some (show (zI M 0 1 0).2.2 0 3 = some s from hr3) hs, r1]
    rfl
  have m99 : ∀ i, i < N → M.1 99 i = nI ((B.2 i).toNatClampNeg) := fun i hi => (hTp.2 i (by omega)).trans (hb i (by omega)).1
  -- once for the class alone
  obtain ⟨M0, a1, a2, a3, a4, a5, a6, a7⟩ := m_read (M := M) ht hTp.1 hN hB7.1 m99
  have zf1 : z < zFu := by have := hTX.2.1; unfold zFu; omega
  have zf2 : z + 1 < zFu := by have := hTX.2.1; unfold zFu; omega
  have run : ∀ Mm, rX Mm N (fun i => (B.2 i).toNatClampNeg) 0 → mPs Mm 0 0 0 P00 (fun _ => false) (fun _ => none) [] → Mm.1 98 20 = nI 0 → _ := fun Mm w1 w2 w3 => jLoop hTX z M13 Mm 0 0 0 0 0 zFu zFu P00 (fun _ => false) (fun _ => none) [] (by omega) zf1 zf2 r2 w1 (Nat.zero_le _) (Nat.le_refl _) w3 r3 w2 aI_0
  have m13 : ∀ a i, ¬ ((a = 0 ∧ i = 1) ∨ (47 ≤ a ∧ a ≤ 53) ∨ (s ≤ a ∧ a ≤ s + 20)) → M13.1 a i = M.1 a i := fun a i w => by rw [r5 a i (by omega), zI_of (by omega)]
  have m1301 : M13.1 0 1 = 0 := by rw [r5 _ _ (by omega), zI_at]
  rcases run M0 a2 a3 a4 with ⟨f, jf, Mc', Mm', b0, b1, b2, b3, b4, b5, b6⟩ | ⟨l', Mc', Mm', n', T', L', P', sd', LW', out', b0, b1, b2, b3, b4, b5, b6, b7, b8, b9⟩
  · -- a FAULT
    rw [nI_0] at b1
    obtain ⟨Me, e1, e2, e3, e4, e5⟩ := cT9_F (M := Mc')
    have em : ∀ a i, ¬ ((a = 0 ∧ (i = 1 ∨ i = 5 ∨ i = 6)) ∨ (47 ≤ a ∧ a ≤ 53) ∨ (s ≤ a ∧ a ≤ s + 20)) → Me.1 a i = M.1 a i := fun a i w => by rw [e5 a i (by omega), b3.2 a i (by omega), m13 a i (by omega)]
    have er : ∀ a, a ≠ 47 → a ≠ 50 → Me.2.2 a = M.2.2 a := fun a w1 w2 => by rw [e2, b3.1, r6 a w1 w2]; rfl
    obtain ⟨M21, g1, g2, g3, g4, g5, g6, g7⟩ := m_read (M := Me) ht (by rw [em _ _ (by omega)]; exact hTp.1) hN hB7.1 (fun i hi => by rw [em _ _ (by omega)]; exact m99 i hi)
    rcases run M21 g2 g3 g4 with ⟨f2, jf2, Mc2, Mm2, d0, d1, d2, d3, d4, d5, d6⟩ | ⟨l2, Mc2, Mm2, n2, T2, L2, P2, sd2, LW2, out2, d0, d1, d2, d3, d4, d5, d6, d7, d8, d9⟩
    rotate_left
    · rw [nI_0, b1] at d2
      exact absurd (Prod.mk.inj (Option.some.inj d2)).1.symm (nI_ne_m1 (by omega))
    rw [nI_0, b1] at d1
    have ec : Mc' = Mc2 := (Prod.mk.inj (Option.some.inj d1)).2
    subst ec
    obtain ⟨M2, h1, h2, h3, h4, h5⟩ := J158_F d5 d0
    have k2 : ∀ a i, ¬ (FRc a i ∨ (a = 98 ∧ (i = 0 ∨ i = 2 ∨ i = 21 ∨ i = 28 ∨ i = 29))) → M2.1 a i = Me.1 a i := fun a i w => by
      rw [h5 a i (fun u => w (Or.inr (by omega))), d6.2 a i (fun u => w (Or.inl u)), g7 a i (fun u => w (u.elim Or.inl (fun v => Or.inr (by omega))))]
    have kc : ∀ a i, a < 98 → M2.1 a i = Me.1 a i := fun a i w => k2 a i (by unfold FRc; omega)
    have kr : ∀ a, M2.2.2 a = Me.2.2 a := fun a => by rw [h2, d6.1, g5]
    have kM : ∀ a i, ¬ ((a = 0 ∧ (i = 1 ∨ i = 5 ∨ i = 6)) ∨ (47 ≤ a ∧ a ≤ 53) ∨ (s ≤ a ∧ a ≤ s + 20)) → a < 98 → M2.1 a i = M.1 a i := fun a i w w2 => by rw [kc a i w2, em a i w]
    have kR : ∀ a i, ¬ (FRc a i ∨ (a = 98 ∧ (i = 0 ∨ i = 2 ∨ i = 21 ∨ i = 28 ∨ i = 29))) → 98 ≤ a → M2.1 a i = M.1 a i := fun a i w w2 => by rw [k2 a i w, em a i (by omega)]
    have k01 : M2.1 0 1 = 0 := by rw [kc _ _ (by omega), e5 _ _ (by omega), b3.2 _ _ (by omega)]; exact m1301
    have k982 : M2.1 98 2 = 0 := by rw [h5 _ _ (by omega), d6.2 _ _ (by unfold FRc; omega)]; exact g6
    obtain ⟨hA1, hA2, hA3, hA4, hA5, hA6⟩ := hA
    obtain ⟨n1, n2, n3, n4, n5, n6, n7, n8⟩ := hMR
    refine ⟨-1, Me, M2, by rw [eT, b1, zcIM_some rfl]; exact e1, by rw [g1, d4]; exact h1, q, V, I, D, S, (0, B.2), (nI f2, nI (pl N (fun i => (B.2 i).toNatClampNeg) jf2)), ⟨hA1, hA2, hA3, hA4, hA5, by show 0 ≤ 700; omega, fun k hk => absurd hk (by show ¬ k < 0; omega)⟩, ?_, ?_⟩
    · refine ⟨p, ⟨by rw [kr, er 0 (by omega) (by omega)]; exact hrf.1, by rw [kr, er 55 (by omega) (by omega)]; exact hrf.2.1, s, by rw [kr, er 0 (by omega) (by omega)]; exact hr3, hsp, hs⟩, hpl.mono (fun a i w1 w2 => kM a i (by omega) (by omega)), hcV.mono (fun a i w1 w2 _ => kM a i (by omega) (by omega)), hcI.mono (kM _ _ (by omega) (by omega)) (fun a i w1 w2 => kM a i (by omega) (by omega)) (by rw [kr, er 75 (by omega) (by omega)]), hcD.mono (fun a i w1 w2 => kM a i (by omega) (by omega)), hcS.mono (fun a i w1 w2 => kM a i (by omega) (by omega)), ⟨k01.trans nI_0.symm, fun k hk => absurd hk (by show ¬ k < 0; omega)⟩, ?_, ?_⟩
      · rw [kc _ _ (by omega), e3]; exact d2.1
      · rw [kc _ _ (by omega), e4]; exact d2.2
    · have i51 : M2.1 98 51 = M.1 98 51 := kR _ _ (by unfold FRc; omega) (by omega)
      have i52 : M2.1 98 52 = M.1 98 52 := kR _ _ (by unfold FRc; omega) (by omega)
      have hv : ∀ a i, 118 ≤ a → a ≤ 131 → M2.1 a i = M.1 a i := fun a i w1 w2 => kR a i (by unfold FRc; omega) (by omega)
      refine ⟨⟨by rw [i51]; exact n1.1, by rw [i52]; exact n1.2⟩, n2.lo (fun a i w1 w2 w3 => kR a i ?_ (by omega)), n3.hi hv i51 i52, ⟨by rw [kR _ _ (by unfold FRc; omega) (by omega)]; exact n4.1, fun J hJ => (n4.2 J hJ).hi hv i51 i52⟩, ⟨by rw [kR _ _ (by unfold FRc; omega) (by omega)]; exact n5.1, n5.2.1, fun k hk => (n5.2.2 k hk).hi hv i51 i52⟩, n6.mono (kR _ _ (by unfold FRc; omega) (by omega)) (kR _ _ (by unfold FRc; omega) (by omega)) (fun a i w1 w2 => kR a i (by unfold FRc; omega) (by omega)), ⟨k982.trans nI_0.symm, fun k hk => absurd hk (by show ¬ k < 0; omega)⟩, h3, h4⟩
      unfold hh at w3
      unfold FRc
      repeat' (split at w3)
      all_goals omega
  · -- a TEXT without one
    rw [nI_0] at b2
    have hr2 : Mc'.2.2 0 2 = some p := by rw [b4.1, r6 0 (by omega) (by omega)]; exact hrf.1
    have hr3' : Mc'.2.2 0 3 = some s := by rw [b4.1, r6 0 (by omega) (by omega)]; exact hr3
    obtain ⟨Me, e1, e2, e3, e4, e5, e6⟩ := cT9_ok b0 hpl.1.1 hs hr2 hr3' b3 b1
    have em : ∀ a i, 98 ≤ a → Me.1 a i = M.1 a i := fun a i w => by rw [e6 a i (by omega), b4.2 a i (by omega), m13 a i (by omega)]
    obtain ⟨M21, g1, g2, g3, g4, g5, g6, g7⟩ := m_read (M := Me) ht (by rw [em _ _ (by omega)]; exact hTp.1) hN hB7.1 (fun i hi => by rw [em _ _ (by omega)]; exact m99 i hi)
    rcases run M21 g2 g3 g4 with ⟨f2, jf2, Mc2, Mm2, d0, d1, d2, d3, d4, d5, d6⟩ | ⟨l2, Mc2, Mm2, n2, T2, L2, P2, sd2, LW2, out2, d0, d1, d2, d3, d4, d5, d6, d7, d8, d9⟩
    · rw [nI_0, b2] at d1
      exact absurd (Prod.mk.inj (Option.some.inj d1)).1 (nI_ne_m1 (by omega))
    rw [nI_0, b2] at d2
    have ec : Mc' = Mc2 := (Prod.mk.inj (Option.some.inj d2)).2
    have el : nI l' = nI l2 := (Prod.mk.inj (Option.some.inj d2)).1
    subst ec
    obtain ⟨Me2, f1, f2, f3, f4, f5, f6⟩ := cT9_ok d0 hpl.1.1 hs hr2 hr3' d3 d1
    rw [el, f1] at e1
    have ee : Me2 = Me := (Prod.mk.inj (Option.some.inj e1)).2
    subst ee
    obtain ⟨n1, n2', n3, n4, n5, n6, n7, n8⟩ := hMR
    have k98 : ∀ i, i = 51 ∨ i = 52 → Mm2.1 98 i = M.1 98 i := fun i w => by rw [d9.2 _ _ (by unfold FRc; omega), g7 _ _ (by unfold FRc; omega), em _ _ (by omega)]
    obtain ⟨M2, h1, h2, h3, h4, ⟨h5, h6, h7, h8, h9, h10⟩, h11⟩ := J158_ok d7.1 d7.2.1 (by rw [k98 51 (Or.inl rfl)]; exact n1.1) d8 d1
    have kc : ∀ a i, a < 98 → M2.1 a i = Me2.1 a i := fun a i w => by
      rw [h11 a i (by unfold CF; omega), d9.2 a i (by unfold FRc; omega), g7 a i (by unfold FRc; omega)]
    have kr : ∀ a, M2.2.2 a = Me2.2.2 a := fun a => by rw [h2, d9.1, g5]
    have k982 : M2.1 98 2 = 0 := by rw [h11 _ _ (by unfold CF; omega), d9.2 _ _ (by unfold FRc; omega)]; exact g6
    have k01 : M2.1 0 1 = 0 := by rw [kc _ _ (by omega), f6 _ _ (by omega), d4.2 _ _ (by omega)]; exact m1301
    have hq := pI_of d1
    refine ⟨nI l2, Me2, M2, by rw [eT, b2, zcIM_some rfl, el]; exact f1, by rw [g1, d6, h1, d7.2.2], qOf n2 T2 L2 P2 LW2 out2, sBegin n2 T2 (PP n2 T2 L2 P2), none, (0, fun _ => sBegin n2 T2 (PP n2 T2 L2 P2)), (0, -1, fun _ _ => 0), (0, B.2), (0, -1), ⟨hq, sBegin_wI hq, fun J hJ => (by cases hJ), fun k hk => absurd hk (by show ¬ k < 0; omega), ⟨by show 0 ≤ 24; omega, Or.inl rfl, fun k hk => absurd hk (by show ¬ k < 0; omega)⟩, by show 0 ≤ 700; omega, fun k hk => absurd hk (by show ¬ k < 0; omega)⟩, ?_, ?_⟩
    · refine ⟨s, ⟨by rw [kr]; exact f2.1, by rw [kr]; exact f2.2.2, p, by rw [kr]; exact f2.2.1, fun w => hsp w.symm, hpl.1.1⟩, f3.mono (fun a i w1 w2 => kc a i (by omega)), f4.mono (fun a i w1 w2 _ => kc a i (by omega)), ⟨?_, fun J hJ => (by cases hJ)⟩, ⟨?_, by show 0 ≤ 20; omega, fun k hk => absurd hk (by show ¬ k < 0; omega)⟩, ⟨?_, ?_, fun k hk => absurd hk (by show ¬ k < 0; omega)⟩, ⟨k01.trans nI_0.symm, fun k hk => absurd hk (by show ¬ k < 0; omega)⟩, ?_, ?_⟩
      · rw [kc _ _ (by omega)]; exact f5.2.2.1
      · rw [kc _ _ (by omega)]; exact f5.2.2.2.1.trans nI_0.symm
      · rw [kc _ _ (by omega)]; exact f5.2.2.2.2.1.trans nI_0.symm
      · rw [kc _ _ (by omega)]; exact f5.2.2.2.2.2
      · rw [kc _ _ (by omega), f5.1, d5.1]; exact r4.1
      · rw [kc _ _ (by omega), f5.2.1, d5.2]; exact r4.2
    · refine ⟨⟨?_, ?_⟩, h3, h4, ⟨h7, fun J hJ => (by cases hJ)⟩, ⟨h8.trans nI_0.symm, by show 0 ≤ 20; omega, fun k hk => absurd hk (by show ¬ k < 0; omega)⟩, ⟨h9.trans nI_0.symm, h10, fun k hk => absurd hk (by show ¬ k < 0; omega)⟩, ⟨k982.trans nI_0.symm, fun k hk => absurd hk (by show ¬ k < 0; omega)⟩, h5, h6⟩
      · rw [h11 _ _ (by unfold CF; omega), k98 51 (Or.inl rfl)]; exact n1.1
      · rw [h11 _ _ (by unfold CF; omega), k98 52 (Or.inr rfl)]; exact n1.2
