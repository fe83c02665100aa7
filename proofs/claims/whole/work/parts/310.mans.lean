/-! ===== lines: a MAN, a THING ===== -/
theorem jMan {Mc Mm : zM} {p N z j n T L : Nat} {b : Nat → Nat} {P : AV} {sd : Nat → Bool} {LW : LWr} {out : List (Int32 × Int32)} (hTX : TX N z b) (hX : cX Mc p N z b (j + 1)) (hA : cAtt Mc N b j) (hR : rX Mm N b j) (hj : j ≤ z) (hK : tk N b j = 7) (hC : cPs Mc p n T L P sd LW out) (hM : mPs Mm n T L P sd LW out) (hI : aI n T L P LW out) :
    jF p N z b Mc Mm (gX5_readMan Mc) (gX10_line Mm) ∨ jOK p N z b Mc Mm j (gX5_readMan Mc) (gX10_line Mm) := by
  have ht := hTX.1
  have hp := isPl_lt hX.1
  have hpl := hX.1
  have hjz := hTX.lt hj (by omega)
  obtain ⟨C1, C2, C3, C4, C5, C6⟩ := hC
  obtain ⟨D1, D2, D3, D4, D5, D6, D7⟩ := hM
  have hs : Mc.1 p 0 = nI n := C1.1
  have hm : Mm.1 100 9 = nI n := D1.1
  have hI' := hI
  obtain ⟨⟨i1, i2, i3, i4⟩, i5, i6, i7, i8, i9, i10⟩ := hI
  have hfull : gX10_isFull (nI 0) Mm = some (if n = 6 then 1 else 0) := by
    rw [m_full (fun _ => ⟨n, by omega, D1.1⟩) (fun _ => ⟨T, by omega, D1.2.1⟩) (fun _ => ⟨L, by omega, D1.2.2⟩) (by omega)]
    by_cases w : n = 6
    · rw [if_pos w, if_pos (by rw [D1.1, D1.2.1, D1.2.2]; subst w; exact Or.inl ⟨rfl, rfl⟩)]
    · rw [if_neg w, if_neg (fun q => w (by rw [hm] at q; rcases q with q | q | q <;> first | omega | (have := q.2; rw [nI_eqs (by omega) (by omega)] at this; exact this)))]
  unfold gX5_readMan
  rw [zgP_some hX.2.1 hpl, hs, if_neg (nI_pos (by omega))]
  by_cases hn : n < 6
  · rw [if_pos (show nI n < 6 from (nI_lt_iff (b := 6) (by omega) (by omega)).mpr hn)]
    rw [if_neg (by omega)] at hfull
    rw [m_line_01 ht hR (by omega) (by omega) hfull]
    obtain ⟨M7, g1, g2, g3, g4⟩ := m_J71 (w := 0) ht hR
    have hm7 : M7.1 100 9 = nI n := by rw [g4.2 _ _ (by omega)]; exact hm
    have et : rTail (nI 0) M7 = RN 101 12 (nI 6) (nI n) (nI 0) (nI 0) (nI 99) (nI 0) (nI 99) (nI 1) (nI 9) M7 := by
      have f7 : gX10_fresher 0 M7 = some (nI n) := by
        rw [show gX10_fresher 0 M7 = gX10_fresher (nI 0) M7 from rfl, m_fresher (by omega)]
        exact congrArg some hm7
      unfold rTail
      rw [if_pos (show nI 0 = 0 from rfl), zcI_some f7, zcI_some f7]
      rfl
    rw [g1, et]
    have h7 : ∀ a i, 99 ≤ a → M7.1 a i = Mm.1 a i := fun a i q => g4.2 a i (by omega)
    rcases jNew (c := 1) (slot := 0) (n := n) (n0 := 6) (a := 101) (d := 6) (w := 0) (n1 := 12) (l1 := 0) (h1 := 99) (l2 := 0) (h2 := 99) (l3 := 1) (h3 := 9) hTX hX g2 hjz (by omega) hn (by omega) (by omega) (by omega) (by omega) (by omega) (by omega) (by omega) (by omega) (fun k hk => by
        rw [C2 1 k (by omega) (pdN (by omega) (by omega) hk), h7 _ _ (by omega)]
        have := D2 1 k (by omega) (pdN (by omega) (by omega) hk)
        rw [pu_4 (by omega)] at this
        exact this.symm) hs hm7 with ⟨f, jf, hf, hjf, ⟨Mc', a1, a2, a3⟩, Mm', b1, b2, b3⟩ | ⟨x0, x1, x2, x3, j', hx1, hx2, hx3, hjj, hjz', ⟨Mc', a1, a2, a3, ⟨a4, a5, a6, a7⟩, a8⟩, Mm', b1, b2, b3, ⟨b4, b5, b6, b7⟩, b8, b9⟩
    · exact Or.inl ⟨f, jf, hf, hjf, ⟨Mc', a1, a2, a3⟩, Mm', b1, b2, g4.R.tr b3⟩
    · refine Or.inr ⟨n + 1, T, L, P4 P 1 n x0 (nI x1) (nI x2) (nI x3), sd, LW, out, j', by omega, hjz', ?_, ⟨Mc', a1, a2, ⟨⟨?_, ?_, ?_⟩, fun c k hc hd => ?_, fun k hk => ?_, C4.mono (fun a i q1 q2 => a8.2 a i (by omega)), C5.mono (a8.2 _ _ (by omega)) (fun i => a8.2 _ _ (by omega)) (fun i => a8.2 _ _ (by omega)), by rw [a8.2 _ _ (by omega)]; exact C6⟩, a8.C (by omega), a8.2 _ _ (by omega), a8.2 _ _ (by omega)⟩, Mm', b1, b2, ⟨⟨?_, ?_, ?_⟩, fun c k hc hd => ?_, (D3.or (w := 0) (by omega) g3).mono (b9.2 _ _ (by omega)), D4.mono (fun a i q1 q2 => by rw [b9.2 a i (by omega), h7 _ _ (by omega)]), D5.mono (by rw [b9.2 _ _ (by omega), h7 _ _ (by omega)]) (fun i => by rw [b9.2 _ _ (by omega), h7 _ _ (by omega)]) (fun i => by rw [b9.2 _ _ (by omega), h7 _ _ (by omega)]), by rw [b9.2 _ _ (by omega), g4.2 _ _ (by omega)]; exact D6, by rw [b9.2 _ _ (by omega), g4.2 _ _ (by omega)]; exact D7⟩, ?_, g4.R.tr (b9.R (by omega))⟩
      · refine ⟨⟨by omega, i2, i3, i4⟩, fun k hk => ?_, fun k hk => ?_, fun k hk => ?_, ?_, ?_, i10⟩
        · by_cases e : k = n
          · subst e; exact ⟨x2, by omega, P4_3 (c := 1)⟩
          · rw [P4_old (by omega)]; exact i5 k (by omega)
        · rw [P4_old (by omega), P4_old (by omega)]; exact i6 k hk
        · rw [P4_old (by omega)]
          obtain ⟨m, q1, q2⟩ := i7 k hk
          exact ⟨m, by omega, q2⟩
        · rw [P4_old (by omega)]; exact i8
        · rw [P4_old (by omega)]; exact i9
      · exact a3
      · rw [a8.2 _ _ (by omega)]; exact C1.2.1
      · rw [a8.2 _ _ (by omega)]; exact C1.2.2
      · rcases pdim_n hc hd with e | e
        · obtain ⟨ec, rfl⟩ := e
          rcases (show c = 1 ∨ c = 1 + 1 ∨ c = 1 + 2 ∨ c = 1 + 3 by omega) with rfl | rfl | rfl | rfl
          · rw [P4_1]; exact a4
          · rw [show (1 + 1 : Nat) = 1 + 1 from rfl, P4_2]; exact a5
          · rw [P4_3 (c := 1)]; exact a6
          · rw [P4_4 (c := 1)]; exact a7
        · have lt := pdim_lt hc e
          rw [P4_old (by omega), a8.2 _ _ (by omega)]
          exact C2 c k hc e
      · rw [a8.2 _ _ (by omega)]; exact C3 k hk
      · exact b3
      · rw [b9.2 _ _ (by omega), h7 _ _ (by omega)]; exact D1.2.1
      · rw [b9.2 _ _ (by omega), h7 _ _ (by omega)]; exact D1.2.2
      · rcases pdim_n hc hd with e | e
        · obtain ⟨ec, rfl⟩ := e
          rw [pu_4 (by omega)]
          rcases (show c = 1 ∨ c = 1 + 1 ∨ c = 1 + 2 ∨ c = 1 + 3 by omega) with rfl | rfl | rfl | rfl
          · rw [P4_1]; exact b4
          · rw [P4_2 (c := 1)]; exact b5
          · rw [P4_3 (c := 1)]; exact b6
          · rw [P4_4 (c := 1)]; exact b7
        · have lt := pdim_lt hc e
          rw [P4_old (by omega), ← D2 c k hc e]
          rcases lt with q | q | q | q
          · rw [pu_4 (by omega), b9.2 _ _ (by omega), h7 _ _ (by omega)]
          · rw [pu_8 (by omega), b9.2 _ _ (by omega), h7 _ _ (by omega)]
          · rw [pu_11 (by omega), b9.2 _ _ (by omega), h7 _ _ (by omega)]
          · rw [q.1, pu_12, b9.2 _ _ (by omega), h7 _ _ (by omega)]
      · unfold lnX at b8 ⊢
        rw [b8, g4.2 _ _ (by omega)]
  · left
    rw [if_neg (show ¬ nI n < 6 from fun q => hn ((nI_lt_iff (b := 6) (by omega) (by omega)).mp q))]
    rw [if_pos (show n = 6 by omega)] at hfull
    obtain ⟨Mm', b1, b2, b3⟩ := m_full_no ht hR (by omega) (show tk N b j = 7 + 0 by omega) hfull
    obtain ⟨Mc', a1, a2, a3⟩ := c_fails 2 hA
    unfold gX5_readMan_J18
    rw [zcIM_some (show gX5_fails 2 Mc = _ from a1), zb0]
    exact ⟨2, j, ⟨by omega, by omega⟩, hj, ⟨Mc', rfl, a2, a3.1, fun a i q => a3.2 a i (by omega)⟩, Mm', b1, b2, b3.R⟩
theorem jThing {Mc Mm : zM} {p N z j n T L : Nat} {b : Nat → Nat} {P : AV} {sd : Nat → Bool} {LW : LWr} {out : List (Int32 × Int32)} (hTX : TX N z b) (hX : cX Mc p N z b (j + 1)) (hA : cAtt Mc N b j) (hR : rX Mm N b j) (hj : j ≤ z) (hK : tk N b j = 8) (hC : cPs Mc p n T L P sd LW out) (hM : mPs Mm n T L P sd LW out) (hI : aI n T L P LW out) :
    jF p N z b Mc Mm (gX5_readThing Mc) (gX10_line Mm) ∨ jOK p N z b Mc Mm j (gX5_readThing Mc) (gX10_line Mm) := by
  have ht := hTX.1
  have hp := isPl_lt hX.1
  have hpl := hX.1
  have hjz := hTX.lt hj (by omega)
  obtain ⟨C1, C2, C3, C4, C5, C6⟩ := hC
  obtain ⟨D1, D2, D3, D4, D5, D6, D7⟩ := hM
  have hs : Mc.1 p 5 = nI T := C1.2.1
  have hm : Mm.1 100 10 = nI T := D1.2.1
  have hI' := hI
  obtain ⟨⟨i1, i2, i3, i4⟩, i5, i6, i7, i8, i9, i10⟩ := hI
  have hfull : gX10_isFull (nI 1) Mm = some (if T = 8 then 1 else 0) := by
    rw [m_full (fun _ => ⟨n, by omega, D1.1⟩) (fun _ => ⟨T, by omega, D1.2.1⟩) (fun _ => ⟨L, by omega, D1.2.2⟩) (by omega)]
    by_cases w : T = 8
    · rw [if_pos w, if_pos (by rw [D1.1, D1.2.1, D1.2.2]; subst w; exact Or.inr (Or.inl ⟨rfl, rfl⟩))]
    · rw [if_neg w, if_neg (fun q => w (by rw [hm] at q; rcases q with q | q | q <;> first | omega | (have := q.2; rw [nI_eqs (by omega) (by omega)] at this; exact this)))]
  unfold gX5_readThing
  rw [zgP_some hX.2.1 hpl, hs, if_neg (nI_pos (by omega))]
  by_cases hn : T < 8
  · rw [if_pos (show nI T < 8 from (nI_lt_iff (b := 8) (by omega) (by omega)).mpr hn)]
    rw [if_neg (by omega)] at hfull
    rw [m_line_01 ht hR (by omega) (by omega) hfull]
    obtain ⟨M7, g1, g2, g3, g4⟩ := m_J71 (w := 1) ht hR
    have hm7 : M7.1 100 10 = nI T := by rw [g4.2 _ _ (by omega)]; exact hm
    have et : rTail (nI 1) M7 = RN 105 16 (nI 8) (nI T) (nI 1) (nI 1) (nI 99) (nI 1) (nI 6) (nI 0) (nI 99) M7 := by
      have f7 : gX10_fresher 1 M7 = some (nI T) := by
        rw [show gX10_fresher 1 M7 = gX10_fresher (nI 1) M7 from rfl, m_fresher (by omega)]
        exact congrArg some hm7
      unfold rTail
      rw [if_neg (show ¬ nI 1 = 0 by decide), if_pos (show nI 1 = 1 from rfl), zcI_some f7, zcI_some f7]
      rfl
    rw [g1, et]
    have h7 : ∀ a i, 99 ≤ a → M7.1 a i = Mm.1 a i := fun a i q => g4.2 a i (by omega)
    rcases jNew (c := 5) (slot := 5) (n := T) (n0 := 8) (a := 105) (d := 8) (w := 1) (n1 := 16) (l1 := 1) (h1 := 99) (l2 := 1) (h2 := 6) (l3 := 0) (h3 := 99) hTX hX g2 hjz (by omega) hn (by omega) (by omega) (by omega) (by omega) (by omega) (by omega) (by omega) (by omega) (fun k hk => by
        rw [C2 5 k (by omega) (pdT (by omega) (by omega) hk), h7 _ _ (by omega)]
        have := D2 5 k (by omega) (pdT (by omega) (by omega) hk)
        rw [pu_8 (by omega)] at this
        exact this.symm) hs hm7 with ⟨f, jf, hf, hjf, ⟨Mc', a1, a2, a3⟩, Mm', b1, b2, b3⟩ | ⟨x0, x1, x2, x3, j', hx1, hx2, hx3, hjj, hjz', ⟨Mc', a1, a2, a3, ⟨a4, a5, a6, a7⟩, a8⟩, Mm', b1, b2, b3, ⟨b4, b5, b6, b7⟩, b8, b9⟩
    · exact Or.inl ⟨f, jf, hf, hjf, ⟨Mc', a1, a2, a3⟩, Mm', b1, b2, g4.R.tr b3⟩
    · refine Or.inr ⟨n, T + 1, L, P4 P 5 T x0 (nI x1) (nI x2) (nI x3), sd, LW, out, j', by omega, hjz', ?_, ⟨Mc', a1, a2, ⟨⟨?_, ?_, ?_⟩, fun c k hc hd => ?_, fun k hk => ?_, C4.mono (fun a i q1 q2 => a8.2 a i (by omega)), C5.mono (a8.2 _ _ (by omega)) (fun i => a8.2 _ _ (by omega)) (fun i => a8.2 _ _ (by omega)), by rw [a8.2 _ _ (by omega)]; exact C6⟩, a8.C (by omega), a8.2 _ _ (by omega), a8.2 _ _ (by omega)⟩, Mm', b1, b2, ⟨⟨?_, ?_, ?_⟩, fun c k hc hd => ?_, (D3.or (w := 1) (by omega) g3).mono (b9.2 _ _ (by omega)), D4.mono (fun a i q1 q2 => by rw [b9.2 a i (by omega), h7 _ _ (by omega)]), D5.mono (by rw [b9.2 _ _ (by omega), h7 _ _ (by omega)]) (fun i => by rw [b9.2 _ _ (by omega), h7 _ _ (by omega)]) (fun i => by rw [b9.2 _ _ (by omega), h7 _ _ (by omega)]), by rw [b9.2 _ _ (by omega), g4.2 _ _ (by omega)]; exact D6, by rw [b9.2 _ _ (by omega), g4.2 _ _ (by omega)]; exact D7⟩, ?_, g4.R.tr (b9.R (by omega))⟩
      · refine ⟨⟨i1, by omega, i3, i4⟩, fun k hk => ?_, fun k hk => ?_, fun k hk => ?_, ?_, ?_, i10⟩
        · rw [P4_old (by omega)]; exact i5 k hk
        · by_cases e : k = T
          · subst e; exact ⟨⟨x1, by omega, P4_2 (c := 5)⟩, x2, by omega, by omega, P4_3 (c := 5)⟩
          · rw [P4_old (by omega), P4_old (by omega)]; exact i6 k (by omega)
        · rw [P4_old (by omega)]; exact i7 k hk
        · rw [P4_old (by omega)]; exact i8
        · rw [P4_old (by omega)]; exact i9
      · rw [a8.2 _ _ (by omega)]; exact C1.1
      · exact a3
      · rw [a8.2 _ _ (by omega)]; exact C1.2.2
      · rcases pdim_T hc hd with e | e
        · obtain ⟨ec, ec2, rfl⟩ := e
          rcases (show c = 5 ∨ c = 5 + 1 ∨ c = 5 + 2 ∨ c = 5 + 3 by omega) with rfl | rfl | rfl | rfl
          · rw [P4_1]; exact a4
          · rw [show (5 + 1 : Nat) = 5 + 1 from rfl, P4_2]; exact a5
          · rw [P4_3 (c := 5)]; exact a6
          · rw [P4_4 (c := 5)]; exact a7
        · have lt := pdim_lt hc e
          rw [P4_old (by omega), a8.2 _ _ (by omega)]
          exact C2 c k hc e
      · rw [a8.2 _ _ (by omega)]; exact C3 k hk
      · rw [b9.2 _ _ (by omega), h7 _ _ (by omega)]; exact D1.1
      · exact b3
      · rw [b9.2 _ _ (by omega), h7 _ _ (by omega)]; exact D1.2.2
      · rcases pdim_T hc hd with e | e
        · obtain ⟨ec, ec2, rfl⟩ := e
          rw [pu_8 (by omega)]
          rcases (show c = 5 ∨ c = 5 + 1 ∨ c = 5 + 2 ∨ c = 5 + 3 by omega) with rfl | rfl | rfl | rfl
          · rw [P4_1]; exact b4
          · rw [P4_2 (c := 5)]; exact b5
          · rw [P4_3 (c := 5)]; exact b6
          · rw [P4_4 (c := 5)]; exact b7
        · have lt := pdim_lt hc e
          rw [P4_old (by omega), ← D2 c k hc e]
          rcases lt with q | q | q | q
          · rw [pu_4 (by omega), b9.2 _ _ (by omega), h7 _ _ (by omega)]
          · rw [pu_8 (by omega), b9.2 _ _ (by omega), h7 _ _ (by omega)]
          · rw [pu_11 (by omega), b9.2 _ _ (by omega), h7 _ _ (by omega)]
          · rw [q.1, pu_12, b9.2 _ _ (by omega), h7 _ _ (by omega)]
      · unfold lnX at b8 ⊢
        rw [b8, g4.2 _ _ (by omega)]
  · left
    rw [if_neg (show ¬ nI T < 8 from fun q => hn ((nI_lt_iff (b := 8) (by omega) (by omega)).mp q))]
    rw [if_pos (show T = 8 by omega)] at hfull
    obtain ⟨Mm', b1, b2, b3⟩ := m_full_no ht hR (by omega) (show tk N b j = 7 + 1 by omega) hfull
    obtain ⟨Mc', a1, a2, a3⟩ := c_fails 2 hA
    unfold gX5_readThing_J18
    rw [zcIM_some (show gX5_fails 2 Mc = _ from a1), zb0]
    exact ⟨2, j, ⟨by omega, by omega⟩, hj, ⟨Mc', rfl, a2, a3.1, fun a i q => a3.2 a i (by omega)⟩, Mm', b1, b2, b3.R⟩
