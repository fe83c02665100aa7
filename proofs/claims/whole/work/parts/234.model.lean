/-- who is IN: his THING, how long he is inside -/
def vIn (P V : AV) (n T : Nat) : Prop := ∀ m, m < n → V 4 m = 1 → ∃ t i d : Nat, t < T ∧ V 5 m = nI t ∧ V 6 m = nI i ∧ P 7 t = nI d ∧ i < 2 * d ∧ d ≤ 6
theorem vIn.go {P V : AV} {n T : Nat} (h : vIn P V n T) : vGo V n T := fun m hm h1 => by
  obtain ⟨t, i, d, h2, h3, -⟩ := h m hm h1
  exact ⟨t, h2, h3⟩
theorem nI_2d (d : Nat) : (2 : Int32) * nI d = nI (2 * d) := by
  rw [nI_lit2]
  unfold nI
  rw [Int32.ofNat_mul]
set_option maxHeartbeats 2000000 in
theorem r_inside {M : zM} {n T L f m t i d : Nat} {by' wy : Int32} (hM : MC M n T L) (hf : f < 23) (hm : m < n) (ht : t < T) (hg : vM n T M f 5 m = nI t) (hi : vM n T M f 6 m = nI i) (hd : pM n T L M 7 t = nI d) (hid : i < 2 * d) (hd6 : d ≤ 6) (hw : wyOK M wy by') (hO : pOd (pM n T L M)) (hr : vRu (vM n T M f) n) :
    ∃ M', gX10_goesOnInside (nI f) (nI m) by' M = some M' ∧ FrM f M M' ∧ vM n T M' f = sMove1 (pM n T L M) (vset (vM n T M f) 6 m (vM n T M f 6 m + 1)) (lawM M) wy m t ∧ M'.1 98 53 = M.1 98 53 := by
  have hn := hM.1
  have hTT := hM.2.1
  have hm6 : m < 6 := by omega
  have ht8 : t < 8 := by omega
  have e6 : vM n T M f 6 m = M.1 127 (6 * f + m) := vM_m (by omega) (by omega) (by omega) hm
  have d7 : M.1 107 t = nI d := by rw [← hd]; exact (pM_at (pdT (c := 7) (by omega) (by omega) ht)).symm
  unfold gX10_goesOnInside
  rw [nI_6, zg_true (zok_nI (show 6 * f + m < 138 by omega) (by omega)), zlet_eq, zg_true (zok_nI (show 6 * f + m < 138 by omega) (by omega)), zg_true (zok_nI (show 6 * f + m < 138 by omega) (by omega)), zlet_eq, nI_cl (show 6 * f + m < 2 ^ 31 by omega), goal_of hm (by omega) hg, nI_8, ← e6]
  have hfr : FrM f M (zI M 127 (6 * f + m) (vM n T M f 6 m + 1)) := FrM.put (mf_m (by omega) (by omega) hm6)
  have hv : vM n T (zI M 127 (6 * f + m) (vM n T M f 6 m + 1)) f = vset (vM n T M f) 6 m (vM n T M f 6 m + 1) := vM_put (M := M) (f := f) (vd (n := n) (T := T) (c := 6) (by omega) (by omega) hm) (by decide)
  have h53 : (zI M 127 (6 * f + m) (vM n T M f 6 m + 1)).1 98 53 = M.1 98 53 := zI_of (by omega)
  have hV5 : vset (vM n T M f) 6 m (vM n T M f 6 m + 1) 5 m = nI t := by rw [vset_ne (by omega)]; exact hg
  have hV6 : vset (vM n T M f) 6 m (vM n T M f 6 m + 1) 6 m = nI (i + 1) := by rw [vset_at, hi, nI_1]
  have hV2 : vRu (vset (vM n T M f) 6 m (vM n T M f 6 m + 1)) n := fun k hk => by rw [vset_ne (by omega)]; exact hr k hk
  generalize zI M 127 (6 * f + m) (vM n T M f 6 m + 1) = M7 at hfr hv h53 ⊢
  generalize vset (vM n T M f) 6 m (vM n T M f 6 m + 1) = V1 at hv hV5 hV6 hV2 ⊢
  have hM7 := hM.fr hfr
  obtain ⟨M1, f1, f2, f3, f4⟩ := r_hurt (wy := wy) hM7 hf hm ht (by rw [hv]; exact hV5) (hw.fr hfr) (by rw [pM_fr hfr]; exact hO)
  rw [pM_fr hfr, lawM_fr hfr, hv] at f1 f3
  rw [zcIM_some f1]
  have hfr1 := hfr.tr f2
  have hM1 := hM.fr hfr1
  unfold sMove1
  dsimp only
  generalize hh : sHurt (pM n T L M) V1 (lawM M) wy m t = hu at f1 f3 ⊢
  obtain ⟨hb, hx⟩ := hu
  dsimp only at f1 f3 ⊢
  have a6 : M1.1 127 (6 * f + m) = nI (i + 1) := by
    rw [← hV6]
    have : M1.1 127 (6 * f + m) = vM n T M1 f 6 m := (vM_m (c := 6) (by omega) (by omega) (by omega) hm).symm
    rw [this, f3, vset_ne (by omega)]
  have a6' : vset V1 0 14 hx 6 m = nI (i + 1) := by rw [vset_ne (by omega)]; exact hV6
  have a8 : M1.1 130 (8 * f + t) = vset V1 0 14 hx 8 t := by rw [← f3]; exact (vM_t (c := 8) (by omega) (by omega) ht).symm
  have a7 : M1.1 107 t = nI d := by rw [hfr1.1 107 t (MF_lo (by omega))]; exact d7
  have h53' : M1.1 98 53 = M.1 98 53 := by rw [f4, h53]
  rw [nI_cl (show 8 * f + t < 2 ^ 31 by omega), nI_cl (show t < 2 ^ 31 by omega), a8]
  have put8 : ∀ (M9 : zM) (y : Int32), vM n T (zI M9 130 (8 * f + t) y) f = vset (vM n T M9 f) 8 t y := fun M9 y => vM_put (M := M9) (f := f) (x := y) (vdT (n := n) (T := T) (c := 8) (by omega) (by omega) ht) (by decide)
  have lv8 : ∀ (U : AV) (x : Int32), sLeave U m x 8 t = U 8 t := fun U x => by
    unfold sLeave
    rw [vset_ne (by omega), vset_ne (by omega), vset_ne (by omega)]
  cases hb with
  | true =>
    rw [if_neg (show ¬ b2i true = 0 by decide), if_pos rfl, zg_true (zok_nI (show 8 * f + t < 184 by omega) (by omega)), lv8]
    unfold gX10_goesOnInside_J66
    by_cases hz : vset V1 0 14 hx 8 t = 1
    · rw [if_pos hz, if_pos hz, zg_true (zok_nI (show 8 * f + t < 184 by omega) (by omega)), zlet_eq]
      have fr8 : FrM f M1 (zI M1 130 (8 * f + t) 3) := FrM.put (mf_t ht8)
      obtain ⟨M2, k1, k2, k3, k4⟩ := r_leave (x := 2) (hM1.fr fr8) hf hm
      rw [put8, f3] at k3
      rw [zcV_some k1]
      refine ⟨M2, rfl, (hfr1.tr fr8).tr k2, ?_, by rw [k4, zI_of (by omega), h53']⟩
      rw [k3]
      unfold sLeave
      rw [vset_comm (c := 8) (by omega), vset_comm (c := 8) (by omega), vset_comm (c := 8) (by omega)]
    · rw [if_neg hz, if_neg hz]
      obtain ⟨M2, k1, k2, k3, k4⟩ := r_leave (x := 2) hM1 hf hm
      rw [f3] at k3
      rw [zcV_some k1]
      exact ⟨M2, rfl, hfr1.tr k2, k3, by rw [k4, h53']⟩
  | false =>
    rw [if_pos (show b2i false = 0 by decide), if_neg (show ¬ false = true by decide), zg_true (zok_nI (show 6 * f + m < 138 by omega) (by omega)), zg_true (zok_nI (show t < 16 by omega) (by omega)), a6, a7, a6', hd, nI_2d]
    -- the end where he is not yet out
    have stay : ∀ M9 : zM, M9.1 107 t = nI d → M9.1 127 (6 * f + m) = nI (i + 1) → i + 1 < 2 * d → gX10_goesOnInside_J109 (nI f) (nI m) (nI (6 * f + m)) (nI t) (nI (8 * f + t)) M9 = some M9 := by
      intro M9 q1 q2 q3
      unfold gX10_goesOnInside_J109
      rw [zg_true (zok_nI (show 6 * f + m < 138 by omega) (by omega)), zg_true (zok_nI (show t < 16 by omega) (by omega)), nI_cl (show t < 2 ^ 31 by omega), nI_cl (show 6 * f + m < 2 ^ 31 by omega), q1, q2, nI_2d, if_neg (nI_ge q3 (by omega))]
    by_cases hdi : i + 1 = d
    · rw [if_pos (show nI (i + 1) = nI d by rw [hdi]), if_pos (show nI (i + 1) = nI d by rw [hdi]), zg_true (zok_nI (show 8 * f + t < 184 by omega) (by omega)), zg_true (zok_nI (show 8 * f + t < 184 by omega) (by omega)), zlet_eq]
      by_cases hz : vset V1 0 14 hx 8 t = 0
      · rw [if_pos hz, if_pos hz, stay _ (by rw [zI_of (by omega)]; exact a7) (by rw [zI_of (by omega)]; exact a6) (by omega)]
        exact ⟨_, rfl, hfr1.tr (FrM.put (mf_t ht8)), by rw [put8, f3], by rw [zI_of (by omega), h53']⟩
      · rw [if_neg hz, if_neg hz, stay _ a7 a6 (by omega)]
        exact ⟨M1, rfl, hfr1, f3, h53'⟩
    · rw [if_neg (show ¬ nI (i + 1) = nI d by rw [nI_eq (by omega) (by omega)]; exact hdi), if_neg (show ¬ nI (i + 1) = nI d by rw [nI_eq (by omega) (by omega)]; exact hdi)]
      by_cases h2 : i + 1 = 2 * d
      · rw [if_pos (show nI (i + 1) = nI (2 * d) by rw [h2]), lv8]
        unfold gX10_goesOnInside_J109
        rw [zg_true (zok_nI (show 6 * f + m < 138 by omega) (by omega)), zg_true (zok_nI (show t < 16 by omega) (by omega)), nI_cl (show t < 2 ^ 31 by omega), nI_cl (show 6 * f + m < 2 ^ 31 by omega), a6, a7, nI_2d, if_pos (nI_le (by omega) (by omega))]
        obtain ⟨M2, k1, k2, k3, k4⟩ := r_leave (x := 0) hM1 hf hm
        rw [f3] at k3
        rw [zcV_some k1, zg_true (zok_nI (show 8 * f + t < 184 by omega) (by omega))]
        have c8 : M2.1 130 (8 * f + t) = vset V1 0 14 hx 8 t := by
          have : M2.1 130 (8 * f + t) = vM n T M2 f 8 t := (vM_t (c := 8) (by omega) (by omega) ht).symm
          rw [this, k3, lv8]
        rw [nI_cl (show 8 * f + t < 2 ^ 31 by omega), c8]
        have hfr2 := hfr1.tr k2
        by_cases hz : vset V1 0 14 hx 8 t = 1
        · rw [if_pos hz, if_pos hz]
          obtain ⟨M3, q1, q2, q3, q4⟩ := r_save (hM.fr hfr2) hf hm ht (by
            rw [k3]
            intro k hk
            unfold sLeave
            rw [vset_ne (by omega), vset_ne (by omega), vset_ne (by omega), vset_ne (by omega)]
            exact hV2 k hk)
          rw [pM_fr hfr2, lawM_fr hfr2, k3] at q3
          rw [nI_cl (show 8 * f + t < 2 ^ 31 by omega), nI_cl (show t < 2 ^ 31 by omega), nI_cl (show 6 * f + m < 2 ^ 31 by omega)] at q1
          exact ⟨M3, q1, hfr2.tr q2, q3, by rw [q4, k4, h53']⟩
        · rw [if_neg hz, if_neg hz]
          exact ⟨M2, rfl, hfr2, k3, by rw [k4, h53']⟩
      · rw [if_neg (show ¬ nI (i + 1) = nI (2 * d) by rw [nI_eq (by omega) (by omega)]; exact h2), stay _ a7 a6 (by omega)]
        exact ⟨M1, rfl, hfr1, f3, h53'⟩
