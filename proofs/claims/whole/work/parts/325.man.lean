/-! ===== man: what the class answers, or throws ===== -/
def cMv (x y : Int32) (M : zM) : Option Int32 :=
  if y = 0 then zgP (M.2.2 0 2) (fun p => zg (zok x 6) (some (M.1 (p + 2) (x : Int32).toNatClampNeg)))
  else if y = 1 then zg (zok x 6) (some (M.1 57 (x : Int32).toNatClampNeg))
  else if y = 2 then zgP (M.2.2 0 2) (fun p => zg (zok x 6) (some (M.1 (p + 4) (x : Int32).toNatClampNeg)))
  else if y = 3 then zg (zok x 6) (some (M.1 58 (x : Int32).toNatClampNeg))
  else if y = 4 then zg (zok x 6) (some (M.1 59 (x : Int32).toNatClampNeg))
  else if y = 5 then zg (zok x 6) (some (M.1 60 (x : Int32).toNatClampNeg))
  else if y = 6 then zg (zok x 6) (some (M.1 61 (x : Int32).toNatClampNeg))
  else if y = 7 then gX8_placeOf 55 x M
  else zg (zok x 6) (some (if M.1 62 (x : Int32).toNatClampNeg = 0 then 0 else 1))
theorem gC_none {x : Int32} (h : gC x = -2) : x = -1 := by
  unfold gC at h
  by_cases a : x = -1
  · exact a
  · rw [if_neg a] at h
    by_cases b : x = -2
    · rw [if_pos b] at h; exact absurd h (by decide)
    · rw [if_neg b] at h; exact absurd h b
theorem gC_some {x : Int32} {t : Nat} (ht : t < 100) (h : gC x = nI t) : x = nI t := by
  have n2 : ¬ nI t = -2 := fun e => by
    have := congrArg Int32.toInt e
    rw [nI_toInt (by omega), show (-2 : Int32).toInt = -2 by decide] at this
    omega
  unfold gC at h
  by_cases a : x = -1
  · rw [if_pos a] at h; exact absurd h.symm n2
  · rw [if_neg a] at h
    by_cases b : x = -2
    · rw [if_pos b] at h; exact absurd h.symm (nI_ne_m1 (by omega))
    · rw [if_neg b] at h; exact h
theorem k_man {M : zM} (h : Rel M) (x y : Int32) : ∃ b M2, gX10_man x y M = some (b, M2) ∧ Rel M2 ∧ ((gX9_isMan x M = some 0 ∧ M2.1 98 0 = 1) ∨ (gX9_isMan x M = some 1 ∧ (((y < 0 ∨ 8 < y) ∧ M2.1 98 0 = 2) ∨ (∃ c : Nat, c ≤ 8 ∧ y = nI c ∧ M2.1 98 0 = 0 ∧ cMv x y M = some b)))) := by
  have h' := h
  obtain ⟨q, V, I, D, S, B, F, hA, hC, hM⟩ := h
  have hi1 := hC.man x
  have hi2 := hM.2.1.man x
  have hwI := hA.2.1
  obtain ⟨p, c1, c2, c3, c4, c5, c6, c7, c8⟩ := hC
  have hz := hM.z (y := 0)
  obtain ⟨n, T, L, P, LW, kn⟩ := q
  have hc2 := c2
  have hc3 := c3
  obtain ⟨hP, e2, e3, e4⟩ := c2
  obtain ⟨hPl, hn, hT, hL, hl⟩ := hP
  have z0 : ∀ y1, (zI M 98 0 y1).1 98 0 = y1 := fun y1 => zI_at
  dsimp only at *
  unfold gX10_man
  rw [zcI_some hi2]
  rcases isM_cases (n := n) (by omega) x with hx | ⟨hx, m, hm, rfl⟩
  · rw [hx, if_pos rfl]
    unfold gX10_man_J28
    rw [zlet_eq, z0, if_neg (by decide)]
    exact ⟨_, _, rfl, h'.z, Or.inl ⟨by rw [hi1, hx], zI_at⟩⟩
  · rw [hx, if_neg (show ¬ (1 : Int32) = 0 by decide)]
    have two : ∀ w : y < 0 ∨ 8 < y, ∃ b M2, gX10_man_J23 (nI m) y M = some (b, M2) ∧ Rel M2 ∧ ((gX9_isMan (nI m) M = some 0 ∧ M2.1 98 0 = 1) ∨ (gX9_isMan (nI m) M = some 1 ∧ (((y < 0 ∨ 8 < y) ∧ M2.1 98 0 = 2) ∨ (∃ c : Nat, c ≤ 8 ∧ y = nI c ∧ M2.1 98 0 = 0 ∧ cMv (nI m) y M = some b)))) := fun w => by
      unfold gX10_man_J23 gX10_man_J28
      rw [zlet_eq, z0, if_neg (by decide)]
      exact ⟨_, _, rfl, h'.z, Or.inr ⟨by rw [hi1, hx], Or.inl ⟨w, zI_at⟩⟩⟩
    by_cases y0 : y < 0
    · rw [if_pos y0]; exact two (Or.inl y0)
    rw [if_neg y0]
    by_cases y8 : ¬ y ≤ 8
    · rw [if_neg y8]; exact two (Or.inr (Int32.not_le.mp y8))
    rw [if_pos (Decidable.not_not.mp y8)]
    obtain ⟨c, hc, rfl⟩ := nI_le_of (T2 := 8) (by omega) y0 (Decidable.not_not.mp y8)
    unfold gX10_man_J28
    rw [zlet_eq, z0, if_pos rfl, nI_cl (by omega)]
    have q12 : ∀ e : Option (Int32 × zM), zg (zok (nI m) 12) e = e := fun e => zg_true (zok_nI (show m < 12 by omega) (by omega))
    have q138 : ∀ e : Option (Int32 × zM), zg (zok (nI m) 138) e = e := fun e => zg_true (zok_nI (show m < 138 by omega) (by omega))
    have q6 : ∀ e : Option Int32, zg (zok (nI m) 6) e = e := fun e => zg_true (zok_nI (show m < 6 by omega) (by omega))
    simp only [q12, q138]
    have pv : ∀ cc, 1 ≤ cc → cc ≤ 4 → M.1 (p + cc) m = (zI M 98 0 0).1 (pa cc m).1 (pa cc m).2 := fun cc h1 h2 => by
      have a1 : M.1 (p + cc) m = P cc m := by rw [← e2]; exact (pC_at (pdN h1 h2 hm)).symm
      have a2 : (zI M 98 0 0).1 (pa cc m).1 (pa cc m).2 = P cc m := by
        have e : pM n T L (zI M 98 0 0) = P := hz.2.1.2.1
        rw [← e]; exact (pM_at (pdN h1 h2 hm)).symm
      rw [a1, a2]
    have cv : ∀ cc, 1 ≤ cc → cc ≤ 7 → M.1 (55 + cc) m = V cc m := fun cc h1 h2 => by
      have : vC n T M 55 = V := c3
      rw [← this]; exact (vC_at (vdN h1 h2 hm)).symm
    have mv : ∀ cc, 1 ≤ cc → cc ≤ 6 → cc ≠ 5 → (zI M 98 0 0).1 (if cc = 1 then 129 else 121 + cc) m = V cc m := fun cc h1 h2 h5 => by
      have e : vM n T (zI M 98 0 0) 0 = V := hz.2.2.1
      have := vM_m (n := n) (T := T) (M := zI M 98 0 0) (f := 0) (c := cc) (k := m) h1 h2 h5 hm
      rw [e, Nat.mul_zero, Nat.zero_add] at this
      exact this.symm
    have vr : ∀ cc, 1 ≤ cc → cc ≤ 7 → vRd (zI M 98 0 0) 0 cc m = V cc m := fun cc h1 h2 => by
      have e : vM n T (zI M 98 0 0) 0 = V := hz.2.2.1
      rw [← e]; exact (vM_at (vdN h1 h2 hm)).symm
    have fin : ∀ b, cMv (nI m) (nI c) M = some b → ∃ b' M2, some (b, zI M 98 0 0) = some (b', M2) ∧ Rel M2 ∧ ((gX9_isMan (nI m) M = some 0 ∧ M2.1 98 0 = 1) ∨ (gX9_isMan (nI m) M = some 1 ∧ (((nI c < 0 ∨ 8 < nI c) ∧ M2.1 98 0 = 2) ∨ (∃ c' : Nat, c' ≤ 8 ∧ nI c = nI c' ∧ M2.1 98 0 = 0 ∧ cMv (nI m) (nI c) M = some b')))) := fun b hb => ⟨b, _, rfl, h'.z, Or.inr ⟨by rw [hi1, hx], Or.inr ⟨c, hc, rfl, zI_at, hb⟩⟩⟩
    rcases (show c = 0 ∨ c = 1 ∨ c = 2 ∨ c = 3 ∨ c = 4 ∨ c = 5 ∨ c = 6 ∨ c = 7 ∨ c = 8 by omega) with rfl | rfl | rfl | rfl | rfl | rfl | rfl | rfl | rfl
    · refine fin _ ?_
      show zgP (M.2.2 0 2) (fun p => zg (zok (nI m) 6) (some (M.1 (p + 2) (nI m).toNatClampNeg))) = _
      rw [zgP_some c1.1 hPl, q6, nI_cl (by omega), pv 2 (by omega) (by omega)]
      rfl
    · refine fin _ ?_
      show zg (zok (nI m) 6) (some (M.1 (55 + 2) (nI m).toNatClampNeg)) = _
      rw [q6, nI_cl (by omega), cv 2 (by omega) (by omega), ← mv 2 (by omega) (by omega) (by omega)]
      rfl
    · refine fin _ ?_
      show zgP (M.2.2 0 2) (fun p => zg (zok (nI m) 6) (some (M.1 (p + 4) (nI m).toNatClampNeg))) = _
      rw [zgP_some c1.1 hPl, q6, nI_cl (by omega), pv 4 (by omega) (by omega)]
      rfl
    · refine fin _ ?_
      show zg (zok (nI m) 6) (some (M.1 (55 + 3) (nI m).toNatClampNeg)) = _
      rw [q6, nI_cl (by omega), cv 3 (by omega) (by omega), ← mv 3 (by omega) (by omega) (by omega)]
      rfl
    · refine fin _ ?_
      show zg (zok (nI m) 6) (some (M.1 (55 + 4) (nI m).toNatClampNeg)) = _
      rw [q6, nI_cl (by omega), cv 4 (by omega) (by omega), ← mv 4 (by omega) (by omega) (by omega)]
      rfl
    · have g5 := vr 5 (by omega) (by omega)
      have e5 : vRd (zI M 98 0 0) 0 5 m = gC ((zI M 98 0 0).1 126 m) := by
        unfold vRd
        rw [if_pos rfl]
        show gC ((zI M 98 0 0).1 126 (6 * 0 + m)) = _
        rw [Nat.mul_zero, Nat.zero_add]
      rw [e5] at g5
      have on : gX10_orNone ((zI M 98 0 0).1 126 m) (zI M 98 0 0) = some (V 5 m) := by
        have hg : V 5 m = -2 ∨ ∃ t, t < T ∧ V 5 m = nI t := by
          rcases hwI.2.2.2 m hm with w | w
          · obtain ⟨t, i, d, t1, t2, _⟩ := hwI.1.2.1 m hm w
            exact Or.inr ⟨t, t1, t2⟩
          · exact Or.inl w
        unfold gX10_orNone
        rcases hg with w | ⟨t, t1, t2⟩
        · rw [show (zI M 98 0 0).1 126 m = -1 from gC_none (g5.trans w), if_pos rfl, w]
        · rw [show (zI M 98 0 0).1 126 m = nI t from gC_some (by omega) (g5.trans t2), if_neg (nI_ne_m1 (by omega)), t2]
      show ∃ b M2, zcI (gX10_orNone ((zI M 98 0 0).1 126 m) (zI M 98 0 0)) (fun v11_ => some (v11_, zI M 98 0 0)) = some (b, M2) ∧ _
      rw [zcI_some on]
      refine fin _ ?_
      show zg (zok (nI m) 6) (some (M.1 (55 + 5) (nI m).toNatClampNeg)) = _
      rw [q6, nI_cl (by omega), cv 5 (by omega) (by omega)]
    · refine fin _ ?_
      show zg (zok (nI m) 6) (some (M.1 (55 + 6) (nI m).toNatClampNeg)) = _
      rw [q6, nI_cl (by omega), cv 6 (by omega) (by omega), ← mv 6 (by omega) (by omega) (by omega)]
      rfl
    · have pm := r_place (x := nI m) hz.2.1 hz.2.2.1 (by show n ≤ 6; omega)
      show ∃ b M2, zcI (gX10_placeOf (nI m) (zI M 98 0 0)) (fun v14_ => some (v14_, zI M 98 0 0)) = some (b, M2) ∧ _
      rw [zcI_some pm]
      refine fin _ ?_
      show gX8_placeOf 55 (nI m) M = _
      unfold gX8_placeOf
      rw [zgP_some c1.2.1 hPl, hn.1, zcI_some (s_find (by omega) (by omega))]
      congr 2
      exact ffst_congr (fun k hk => by
        have : M.1 (55 + 1) k = V 1 k := by
          have e : vC n T M 55 = V := c3
          rw [← e]; exact (vC_at (vdN (by omega) (by omega) hk)).symm
        rw [this])
    · have g7 := vr 7 (by omega) (by omega)
      have e7 : vRd (zI M 98 0 0) 0 7 m = (zI M 98 0 0).1 128 m := by
        unfold vRd
        rw [if_neg (by decide), if_neg (fun w => by have := w.2.1; rw [hz.1.1] at this; exact absurd this (by decide))]
        show (zI M 98 0 0).1 128 (6 * 0 + m) = _
        rw [Nat.mul_zero, Nat.zero_add]
      rw [e7] at g7
      refine fin _ ?_
      show zg (zok (nI m) 6) (some (if M.1 (55 + 7) (nI m).toNatClampNeg = 0 then 0 else 1)) = some ((zI M 98 0 0).1 128 m)
      rw [q6, nI_cl (by omega), cv 7 (by omega) (by omega), g7]
      rcases hwI.2.1 m hm with w | w
      · rw [w]; rfl
      · rw [w]; rfl
