def sEnd1 (P : AV) (wy : Int32) (V : AV) : AV := vset (sGrow P V wy) 0 10 (sGrow P V wy 0 10 + 1)
def sEnd2 (P : AV) (T : Nat) (wy : Int32) (V : AV) : AV := sEnd1 P wy (if wy &&& 8 = 0 then sBurns V T else V)
theorem s_98 {M : zM} {w p n T L : Nat} {wy : Int32} (hW : WC M w p n T L) :
    ∃ M', gX8_pass_J98 w wy M = some M' ∧ FrW w p M M' ∧ vC n T M' w = sEnd1 (pC n T L M p) wy (vC n T M w) ∧ M'.1 w 15 = M.1 w 15 := by
  obtain ⟨M1, k1, k2, k3, k4⟩ := s_grow (wy := wy) hW
  unfold gX8_pass_J98 sEnd1
  rw [zcV_some k1, zlet_eq]
  refine ⟨_, rfl, k2.tr FrW.put0, ?_, by rw [zI_of (by omega), k4]⟩
  have e : M1.1 w 10 = vC n T M1 w 0 10 := (vC_at v10).symm
  rw [e, k3]
  have := vC_put (M := M1) (w := w) (x := sGrow (pC n T L M p) (vC n T M w) wy 0 10 + 1) (v10 (n := n) (T := T))
  rw [k3] at this
  exact this
theorem s_87 {M : zM} {w p n T L : Nat} {wy : Int32} (hW : WC M w p n T L) :
    ∃ M', gX8_pass_J87 w wy M = some M' ∧ FrW w p M M' ∧ vC n T M' w = sEnd2 (pC n T L M p) T wy (vC n T M w) ∧ M'.1 w 15 = M.1 w 15 := by
  unfold gX8_pass_J87 sEnd2
  by_cases h : wy &&& 8 = 0
  · rw [if_pos h, if_pos h]
    obtain ⟨M1, k1, k2, k3, k4⟩ := s_burns hW
    obtain ⟨M2, g1, g2, g3, g4⟩ := s_98 (wy := wy) (hW.fr k2)
    rw [zcV_some k1]
    rw [k3, pC_fr hW k2] at g3
    exact ⟨M2, g1, k2.tr g2, g3, by rw [g4, k4]⟩
  · rw [if_neg h, if_neg h]
    exact s_98 hW
theorem s_51 {M : zM} {w p n T L : Nat} {wy : Int32} (hW : WC M w p n T L) (hr : vRk (vC n T M w) n) (hg : vGo (vC n T M w) n T) :
    ∃ M', gX8_pass_J51 w wy M = some M' ∧ FrW w p M M' ∧ vC n T M' w = sEnd2 (pC n T L M p) T wy (sMoves (pC n T L M p) (lawC M p) wy (vC n T M w) n) ∧ M'.1 w 15 = M.1 w 15 := by
  have hn := hW.2.2.2.1
  have hp := hW.2.2.1
  unfold gX8_pass_J51
  obtain ⟨s', N', ⟨e1, e2, e3, e4, e5⟩, hz⟩ := zfix_inv (B := gX8_pass_L53 w wy) (fun k (s : Int32 × zM) => s.1 = nI k ∧ FrW w p M s.2 ∧ vC n T s.2 w = sMoves (pC n T L M p) (lawC M p) wy (vC n T M w) k ∧ s.2.1 w 15 = M.1 w 15 ∧ vGo (vC n T s.2 w) n T) n (by
    intro k hk s ⟨q1, q2, q3, q4, q5⟩
    obtain ⟨i, Mk⟩ := s
    dsimp only at q1 q2 q3 q4 q5
    subst q1
    have hWk := hW.fr q2
    obtain ⟨m, hm, hrk⟩ := hr k hk
    have ek : Mk.1 (w + 1) k = nI m := by
      rw [← vC_at (n := n) (T := T) (vd (c := 1) (by omega) (by omega) hk), q3, sMoves_rk]
      exact hrk
    obtain ⟨M1, k1, k2, k3, k4⟩ := s_move (wy := wy) hWk hm q5
    rw [pC_fr hW q2, lawC_fr hW q2] at k3
    refine ⟨(nI (k + 1), M1), ⟨rfl, q2.tr k2, ?_, by rw [← q4]; exact k4, ?_⟩, fun rc => ?_⟩
    · show vC n T M1 w = sMove _ (sMoves _ _ _ _ k) _ _ _
      rw [k3, ← q3, ← vC_at (n := n) (T := T) (vd (c := 1) (by omega) (by omega) hk)] at *
      rw [ek, nI_cl (by omega)]
    · show vGo (vC n T M1 w) n T
      rw [k3]
      exact sMove_go q5 hm
    · unfold gX8_pass_L53
      dsimp only
      rw [zgP_some hWk.2.1 hp, hWk.2.2.2.1.1, if_neg (nI_ge hk (by omega)), nI_lit6, if_neg (nI_ge (by omega) (by omega)), zg_true (zok_nI (by omega) (by omega)), nI_cl (by omega), ek, zcV_some k1, nI_1]) n 0 zFu (0, M) (by omega) (by unfold zFu; omega) ⟨nI_0.symm, FrW.rf, rfl, rfl, hg⟩
  obtain ⟨i, M'⟩ := s'
  dsimp only at e1 e2 e3 e4 e5
  subst e1
  have hWk := hW.fr e2
  obtain ⟨M2, g1, g2, g3, g4⟩ := s_87 (wy := wy) hWk
  rw [e3, pC_fr hW e2] at g3
  refine ⟨M2, ?_, e2.tr g2, g3, by rw [g4, e4]⟩
  rw [hz]
  unfold gX8_pass_L53
  dsimp only
  rw [zgP_some hWk.2.1 hp, hWk.2.2.2.1.1, if_pos (nI_le (Nat.le_refl _) (by omega))]
  exact g1
theorem s_16 {M : zM} {w p n T L : Nat} {wy : Int32} (hW : WC M w p n T L) (hr : vRk (vC n T M w) n) (hg : vGo (vC n T M w) n T) :
    ∃ M', gX8_pass_J16 w wy M = some M' ∧ FrW w p M M' ∧ vC n T M' w = sEnd2 (pC n T L M p) T wy (sMoves (pC n T L M p) (lawC M p) wy (sSends (pC n T L M p) (lawC M p) n T (vC n T M w) (M.1 w 15) n).1 n) ∧ M'.1 w 15 = (sSends (pC n T L M p) (lawC M p) n T (vC n T M w) (M.1 w 15) n).2 := by
  have hn := hW.2.2.2.1
  have hp := hW.2.2.1
  unfold gX8_pass_J16
  obtain ⟨s', N', ⟨e1, e2, e3, e4⟩, hz⟩ := zfix_inv (B := gX8_pass_L18 w wy) (fun k (s : Int32 × zM) => s.1 = nI k ∧ FrW w p M s.2 ∧ vC n T s.2 w = (sSends (pC n T L M p) (lawC M p) n T (vC n T M w) (M.1 w 15) k).1 ∧ s.2.1 w 15 = (sSends (pC n T L M p) (lawC M p) n T (vC n T M w) (M.1 w 15) k).2) n (by
    intro k hk s ⟨q1, q2, q3, q4⟩
    obtain ⟨i, Mk⟩ := s
    dsimp only at q1 q2 q3 q4
    subst q1
    have hWk := hW.fr q2
    obtain ⟨m, hm, hrk⟩ := hr k hk
    have ek0 : vC n T Mk w 1 k = nI m := by rw [q3, sSends_rk]; exact hrk
    have ek : Mk.1 (w + 1) k = nI m := by
      rw [← vC_at (n := n) (T := T) (vd (c := 1) (by omega) (by omega) hk)]; exact ek0
    obtain ⟨M1, k1, k2, k3, k4⟩ := s_send hWk hm
    rw [pC_fr hW q2, lawC_fr hW q2, q4] at k3 k4
    refine ⟨(nI (k + 1), M1), ⟨rfl, q2.tr k2, ?_, ?_⟩, fun rc => ?_⟩
    · show vC n T M1 w = (sSend _ (sSends _ _ _ _ _ _ k).1 _ _ _ _ _).1
      rw [k3, ← q3, ek0, nI_cl (by omega)]
    · show M1.1 w 15 = (sSend _ (sSends _ _ _ _ _ _ k).1 _ _ _ _ _).2
      rw [k4, ← q3, ek0, nI_cl (by omega)]
    · unfold gX8_pass_L18
      dsimp only
      rw [zgP_some hWk.2.1 hp, hWk.2.2.2.1.1, if_neg (nI_ge hk (by omega)), nI_lit6, if_neg (nI_ge (by omega) (by omega)), zg_true (zok_nI (by omega) (by omega)), nI_cl (by omega), ek, zcV_some k1, nI_1]) n 0 zFu (0, M) (by omega) (by unfold zFu; omega) ⟨nI_0.symm, FrW.rf, rfl, rfl⟩
  obtain ⟨i, M'⟩ := s'
  dsimp only at e1 e2 e3 e4
  subst e1
  have hWk := hW.fr e2
  obtain ⟨M2, g1, g2, g3, g4⟩ := s_51 (wy := wy) hWk (by rw [e3]; intro k hk; rw [sSends_rk]; exact hr k hk) (by rw [e3]; exact sSends_go hg n)
  rw [e3, pC_fr hW e2, lawC_fr hW e2] at g3
  refine ⟨M2, ?_, e2.tr g2, g3, by rw [g4, e4]⟩
  rw [hz]
  unfold gX8_pass_L18
  dsimp only
  rw [zgP_some hWk.2.1 hp, hWk.2.2.2.1.1, if_pos (nI_le (Nat.le_refl _) (by omega))]
  exact g1
/-- a STEP of the class -/
theorem s_pass {M : zM} {w p n T L : Nat} {wy : Int32} (hW : WC M w p n T L) (hk : pLk (pC n T L M p) n L) (hr : vRk (vC n T M w) n) (hg : vGo (vC n T M w) n T) :
    ∃ M', gX8_pass w wy M = some M' ∧ FrW w p M M' ∧ vC n T M' w = (sPass (pC n T L M p) (lawC M p) n T L wy (vC n T M w)).1 ∧ M'.1 w 15 = (sPass (pC n T L M p) (lawC M p) n T L wy (vC n T M w)).2 := by
  unfold gX8_pass sPass
  rw [zlet_eq]
  have f0 : FrW w p M (zI M w 15 0) := FrW.put0
  have hW0 := hW.fr f0
  by_cases h : wy &&& 16 = 0
  · rw [if_pos h]
    simp only [h, if_true]
    obtain ⟨M1, k1, k2, k3, k4⟩ := s_pays hW0 (by rw [pC_fr hW f0]; exact hk)
    rw [vC_put15, pC_fr hW f0] at k3
    rw [zI_at] at k4
    have f1 := f0.tr k2
    rw [zcV_some k1]
    obtain ⟨M2, g1, g2, g3, g4⟩ := s_16 (wy := wy) (hW.fr f1) (by rw [k3]; intro k hk; rw [sPays_row (by decide) (by decide)]; exact hr k hk) (by rw [k3]; intro m hm; rw [sPays_row (by decide) (by decide), sPays_row (by decide) (by decide)]; exact hg m hm)
    rw [k3, pC_fr hW f1, lawC_fr hW f1, k4] at g3 g4
    exact ⟨M2, g1, f1.tr g2, g3, g4⟩
  · rw [if_neg h]
    simp only [h, if_false]
    obtain ⟨M2, g1, g2, g3, g4⟩ := s_16 (wy := wy) hW0 (by rw [vC_put15]; exact hr) (by rw [vC_put15]; exact hg)
    rw [vC_put15, pC_fr hW f0, lawC_fr hW f0, zI_at] at g3 g4
    exact ⟨M2, g1, f0.tr g2, g3, g4⟩
