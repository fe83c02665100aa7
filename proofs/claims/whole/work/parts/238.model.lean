/-- what holds of a reference's world between STEPS -/
def vInv (P V : AV) (n T : Nat) : Prop := vRk V n ∧ vIn P V n T ∧ vRu V n
theorem r_54 {M : zM} {n T L f : Nat} {wy by' : Int32} (hM : MC M n T L) (hf : f < 23) (hw : wyOK M wy by') (hO : pOd (pM n T L M)) (hI : vInv (pM n T L M) (vM n T M f) n T) :
    ∃ M', zfix zFu (gX10_passes_L54 (nI f) by') (0, M) = some M' ∧ FrM f M M' ∧ vM n T M' f = sEnd2 (pM n T L M) T wy (sMoves (pM n T L M) (lawM M) wy (vM n T M f) n) ∧ M'.1 98 53 = M.1 98 53 := by
  have hn := hM.1
  have hTT := hM.2.1
  obtain ⟨hr, hin, hru⟩ := hI
  obtain ⟨s', N', ⟨e1, e2, e3, e4, e5, e6⟩, hz⟩ := zfix_inv (B := gX10_passes_L54 (nI f) by') (fun k (s : Int32 × zM) => s.1 = nI k ∧ FrM f M s.2 ∧ vM n T s.2 f = sMoves (pM n T L M) (lawM M) wy (vM n T M f) k ∧ s.2.1 98 53 = M.1 98 53 ∧ vIn (pM n T L M) (vM n T s.2 f) n T ∧ vRu (vM n T s.2 f) n) n (by
    intro k hk s ⟨q1, q2, q3, q4, q5, q6⟩
    obtain ⟨i, Mk⟩ := s
    dsimp only at q1 q2 q3 q4 q5 q6
    subst q1
    have hMk := hM.fr q2
    obtain ⟨m, hm, hrk⟩ := hr k hk
    have ek0 : vM n T Mk f 1 k = nI m := by rw [q3, sMoves_rk]; exact hrk
    have ek : Mk.1 129 (6 * f + k) = nI m := by rw [← ek0]; exact (vM_m (c := 1) (by omega) (by omega) (by omega) hk).symm
    have e4m : Mk.1 125 (6 * f + m) = vM n T Mk f 4 m := (vM_m (c := 4) (by omega) (by omega) (by omega) hm).symm
    have body : ∀ rc : (Int32 × zM) → Option zM, gX10_passes_L54 (nI f) by' rc (nI k, Mk) = (if vM n T Mk f 4 m = 1 then zcV (gX10_goesOnInside (nI f) (nI m) by' Mk) (fun M24_ => rc (nI (k + 1), M24_)) else rc (nI (k + 1), Mk)) := by
      intro rc
      unfold gX10_passes_L54
      dsimp only
      rw [cl0, hMk.1.1, if_neg (nI_ge hk (by omega)), nI_6, zg_true (zok_nI (show 6 * f + k < 138 by omega) (by omega)), zlet_eq, nI_cl (show 6 * f + k < 2 ^ 31 by omega), ek, nI_6, zg_true (zok_nI (show 6 * f + m < 138 by omega) (by omega)), nI_cl (show 6 * f + m < 2 ^ 31 by omega), e4m, nI_1]
    show ∃ s' : Int32 × zM, (s'.1 = nI (k + 1) ∧ FrM f M s'.2 ∧ vM n T s'.2 f = sMove (pM n T L M) (sMoves (pM n T L M) (lawM M) wy (vM n T M f) k) (lawM M) wy ((sMoves (pM n T L M) (lawM M) wy (vM n T M f) k) 1 k).toNatClampNeg ∧ s'.2.1 98 53 = M.1 98 53 ∧ vIn (pM n T L M) (vM n T s'.2 f) n T ∧ vRu (vM n T s'.2 f) n) ∧ _
    rw [← q3, ek0, nI_cl (by omega)]
    by_cases h4 : vM n T Mk f 4 m = 1
    · obtain ⟨t, ii, d, u1, u2, u3, u4, u5, u6⟩ := q5 m hm h4
      obtain ⟨M1, k1, k2, k3, k4⟩ := r_inside (wy := wy) hMk hf hm u1 u2 u3 (by rw [pM_fr q2]; exact u4) u5 u6 (hw.fr q2) (by rw [pM_fr q2]; exact hO) q6
      rw [pM_fr q2, lawM_fr q2] at k3
      have hmv : vM n T M1 f = sMove (pM n T L M) (vM n T Mk f) (lawM M) wy m := by
        rw [k3]
        unfold sMove
        rw [if_pos h4, u2, nI_cl (by omega)]
      refine ⟨(nI (k + 1), M1), ⟨rfl, q2.tr k2, hmv, by rw [← q4]; exact k4, ?_, ?_⟩, fun rc => ?_⟩
      · dsimp only; rw [hmv]; exact sMove_in hTT.2 q5
      · dsimp only; rw [hmv]; exact sMove_ru q6
      · rw [body, if_pos h4, zcV_some k1]
    · have hmv : vM n T Mk f = sMove (pM n T L M) (vM n T Mk f) (lawM M) wy m := by
        unfold sMove
        rw [if_neg h4]
      refine ⟨(nI (k + 1), Mk), ⟨rfl, q2, hmv, q4, q5, q6⟩, fun rc => ?_⟩
      rw [body, if_neg h4]) n 0 zFu (0, M) (by omega) (by unfold zFu; omega) ⟨nI_0.symm, FrM.rf, rfl, rfl, hin, hru⟩
  obtain ⟨i, Mk⟩ := s'
  dsimp only at e1 e2 e3 e4 e5 e6
  subst e1
  obtain ⟨M', g1, g2, g3, g4⟩ := r_109 (hM.fr e2) hf (hw.fr e2) (by rw [pM_fr e2]; exact hO)
  rw [pM_fr e2, e3] at g3
  refine ⟨M', ?_, e2.tr g2, g3, by rw [g4, e4]⟩
  rw [hz]
  unfold gX10_passes_L54
  dsimp only
  rw [cl0, (hM.fr e2).1.1, if_pos (nI_le (Nat.le_refl _) (by omega))]
  exact g1
theorem r_18 {M : zM} {n T L f : Nat} {wy by' : Int32} (hM : MC M n T L) (hf : f < 23) (hw : wyOK M wy by') (hO : pOd (pM n T L M)) (hD : pDp (pM n T L M) T) (hI : vInv (pM n T L M) (vM n T M f) n T) (hh : vHd M f n) :
    ∃ M', gX10_passes_J18 (nI f) by' M = some M' ∧ FrM f M M' ∧ vM n T M' f = sEnd2 (pM n T L M) T wy (sMoves (pM n T L M) (lawM M) wy (sSends (pM n T L M) (lawM M) n T (vM n T M f) (M.1 98 53) n).1 n) ∧ M'.1 98 53 = (sSends (pM n T L M) (lawM M) n T (vM n T M f) (M.1 98 53) n).2 := by
  have hn := hM.1
  obtain ⟨hr, hin, hru⟩ := hI
  unfold gX10_passes_J18
  obtain ⟨s', N', ⟨e1, e2, e3, e4⟩, hz⟩ := zfix_inv (B := gX10_passes_L20 (nI f) by') (fun k (s : Int32 × zM) => s.1 = nI k ∧ FrM f M s.2 ∧ vM n T s.2 f = (sSends (pM n T L M) (lawM M) n T (vM n T M f) (M.1 98 53) k).1 ∧ s.2.1 98 53 = (sSends (pM n T L M) (lawM M) n T (vM n T M f) (M.1 98 53) k).2) n (by
    intro k hk s ⟨q1, q2, q3, q4⟩
    obtain ⟨i, Mk⟩ := s
    dsimp only at q1 q2 q3 q4
    subst q1
    have hMk := hM.fr q2
    obtain ⟨m, hm, hrk⟩ := hr k hk
    have ek0 : vM n T Mk f 1 k = nI m := by rw [q3, sSends_rk]; exact hrk
    have ek : Mk.1 129 (6 * f + k) = nI m := by rw [← ek0]; exact (vM_m (c := 1) (by omega) (by omega) (by omega) hk).symm
    obtain ⟨M1, k1, k2, k3, k4⟩ := r_enter hMk hf hm (hh.fr q2)
    rw [pM_fr q2, lawM_fr q2, q4] at k3 k4
    refine ⟨(nI (k + 1), M1), ⟨rfl, q2.tr k2, ?_, ?_⟩, fun rc => ?_⟩
    · show vM n T M1 f = (sSend _ (sSends _ _ _ _ _ _ k).1 _ _ _ _ _).1
      rw [k3, ← q3, ek0, nI_cl (by omega)]
    · show M1.1 98 53 = (sSend _ (sSends _ _ _ _ _ _ k).1 _ _ _ _ _).2
      rw [k4, ← q3, ek0, nI_cl (by omega)]
    · unfold gX10_passes_L20
      dsimp only
      rw [cl0, hMk.1.1, if_neg (nI_ge hk (by omega)), nI_6, zg_true (zok_nI (show 6 * f + k < 138 by omega) (by omega)), nI_cl (show 6 * f + k < 2 ^ 31 by omega), ek, zcV_some k1, nI_1]) n 0 zFu (0, M) (by omega) (by unfold zFu; omega) ⟨nI_0.symm, FrM.rf, rfl, rfl⟩
  obtain ⟨i, Mk⟩ := s'
  dsimp only at e1 e2 e3 e4
  subst e1
  obtain ⟨M', g1, g2, g3, g4⟩ := r_54 (hM.fr e2) hf (hw.fr e2) (by rw [pM_fr e2]; exact hO) (by
    rw [pM_fr e2, e3]
    exact ⟨fun k hk => by rw [sSends_rk]; exact hr k hk, sSends_in hin hD n, vRu_row hru (sSends_2 n)⟩)
  rw [pM_fr e2, lawM_fr e2, e3] at g3
  refine ⟨M', ?_, e2.tr g2, g3, by rw [g4, e4]⟩
  rw [hz]
  unfold gX10_passes_L20
  dsimp only
  rw [cl0, (hM.fr e2).1.1, if_pos (nI_le (Nat.le_refl _) (by omega))]
  exact g1
/-- a STEP of the reference -/
theorem r_pass {M : zM} {n T L f : Nat} {wy by' : Int32} (hM : MC M n T L) (hf : f < 23) (hw : wyOK M wy by') (hO : pOd (pM n T L M)) (hD : pDp (pM n T L M) T) (hk : pLk (pM n T L M) n L) (hI : vInv (pM n T L M) (vM n T M f) n T) (hh : vHd M f n) :
    ∃ M', gX10_passes (nI f) by' M = some M' ∧ FrM f M M' ∧ vM n T M' f = (sPass (pM n T L M) (lawM M) n T L wy (vM n T M f)).1 ∧ M'.1 98 53 = (sPass (pM n T L M) (lawM M) n T L wy (vM n T M f)).2 := by
  unfold gX10_passes sPass
  rw [zlet_eq]
  have f0 : FrM f M (zI M 98 53 0) := FrM.put (Or.inl ⟨rfl, Or.inr rfl⟩)
  have hM0 := hM.fr f0
  have e51 : (zI M 98 53 0).1 98 51 = M.1 98 51 := zI_of (by omega)
  have ev : vM n T (zI M 98 53 0) f = vM n T M f := vM_98 (by omega) (by omega)
  rw [e51]
  by_cases h5 : M.1 98 51 = 5
  · rw [if_pos h5]
    have hw5 : ¬ wy &&& 16 = 0 := fun z => (hw.2.2.2.2.mp z) h5
    simp only [hw5, if_false]
    obtain ⟨M2, g1, g2, g3, g4⟩ := r_18 hM0 hf (hw.fr f0) (by rw [pM_fr f0]; exact hO) (by rw [pM_fr f0]; exact hD) (by rw [pM_fr f0, ev]; exact hI) (hh.fr f0)
    rw [ev, pM_fr f0, lawM_fr f0, zI_at] at g3 g4
    exact ⟨M2, g1, f0.tr g2, g3, g4⟩
  · rw [if_neg h5]
    have hw5 := hw.2.2.2.2.mpr h5
    simp only [hw5, if_true]
    obtain ⟨M1, k1, k2, k3, k4⟩ := r_pays hM0 hf (by rw [pM_fr f0]; exact hk)
    rw [ev, pM_fr f0] at k3
    rw [zI_at] at k4
    have f1 := f0.tr k2
    rw [zcV_some k1]
    obtain ⟨M2, g1, g2, g3, g4⟩ := r_18 (hM.fr f1) hf (hw.fr f1) (by rw [pM_fr f1]; exact hO) (by rw [pM_fr f1]; exact hD) (by
      rw [pM_fr f1, k3]
      refine ⟨fun k hk => by rw [sPays_row (by decide) (by decide)]; exact hI.1 k hk, fun m hm h1 => ?_, vRu_row hI.2.2 (sPays_row (by decide) (by decide) L)⟩
      rw [sPays_row (by decide) (by decide)] at h1
      rw [sPays_row (by decide) (by decide), sPays_row (by decide) (by decide)]
      exact hI.2.1 m hm h1) (hh.fr f1)
    rw [k3, pM_fr f1, lawM_fr f1, k4] at g3 g4
    exact ⟨M2, g1, f1.tr g2, g3, g4⟩
