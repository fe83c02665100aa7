theorem cl_4 : (4 : Int32).toNatClampNeg = 4 := rfl
theorem r_203 {M : zM} {n T L f : Nat} {y : Int32} (hM : MC M n T L) (hf : f < 23) :
    ∃ M', gX10_passes_J203 (nI f) y M = some M' ∧ FrM f M M' ∧ vM n T M' f = vset (vset (vM n T M f) 0 11 (sHeat (vM n T M f 0 11) (if y = 0 then pM n T L M 12 1 else pM n T L M 12 1 + 5))) 0 10 (vM n T M f 0 10 + 1) ∧ M'.1 98 53 = M.1 98 53 := by
  have e11 : vM n T M f 0 11 = M.1 120 f := vM_0 (by omega) (by omega)
  have e10 : vM n T M f 0 10 = M.1 118 f := vM_0 (by omega) (by omega)
  have eg : pM n T L M 12 1 = M.1 100 4 := pM_at (pdS (by omega))
  have j234 : ∀ z : Int32, ∃ M', gX10_passes_J234 (nI f) (nI f) (M.1 120 f + M.1 100 4) z M = some M' ∧ FrM f M M' ∧ vM n T M' f = vset (vset (vM n T M f) 0 11 (sHeat (M.1 120 f) (M.1 100 4 + z))) 0 10 (M.1 118 f + 1) ∧ M'.1 98 53 = M.1 98 53 := by
    intro z
    unfold gX10_passes_J234
    rw [zg_true (zok_nI hf (by omega)), zlet_eq, zg_true (zok_nI hf (by omega)), zg_true (zok_nI hf (by omega)), zlet_eq, nI_cl (by omega), zI_of (show ¬ (118 = 120 ∧ f = f) by omega), Int32.add_assoc]
    refine ⟨_, rfl, (FrM.put (mf_0 (by omega) (by omega))).tr (FrM.put (mf_0 (by omega) (by omega))), ?_, by rw [zI_of (by omega), zI_of (by omega)]⟩
    have h1 := vM_put (M := zI M 120 f (sHeat (M.1 120 f) (M.1 100 4 + z))) (f := f) (x := M.1 118 f + 1) (v10 (n := n) (T := T)) (by decide)
    have h2 := vM_put (M := M) (f := f) (x := sHeat (M.1 120 f) (M.1 100 4 + z)) (v11 (n := n) (T := T)) (by decide)
    refine h1.trans ?_
    rw [show vM n T (zI M 120 f (sHeat (M.1 120 f) (M.1 100 4 + z))) f = _ from h2]
    rfl
  unfold gX10_passes_J203
  rw [zg_true (zok_nI hf (by omega)), nI_cl (by omega), cl_4, e11, e10, eg]
  by_cases h : y = 0
  · rw [if_pos h, if_pos h]
    have := j234 0
    rw [Int32.add_zero] at this
    exact this
  · rw [if_neg h, if_neg h]
    exact j234 5
theorem r_175 {M : zM} {n T L f : Nat} {wy by' : Int32} (hM : MC M n T L) (hf : f < 23) (hw : wyOK M wy by') (hO : pOd (pM n T L M)) :
    ∃ M', gX10_passes_J175 (nI f) by' M = some M' ∧ FrM f M M' ∧ vM n T M' f = sEnd1 (pM n T L M) wy (vM n T M f) ∧ M'.1 98 53 = M.1 98 53 := by
  unfold gX10_passes_J175 gX10_passes_J202 sEnd1 sGrow
  by_cases h1 : M.1 98 51 = 1
  · rw [if_pos h1]
    have hw2 : ¬ wy &&& 2 = 0 := fun z => (hw.2.1.mp z) h1
    rw [if_neg hw2]
    obtain ⟨M', g1, g2, g3, g4⟩ := r_203 (y := 0) hM hf
    rw [if_pos rfl] at g3
    exact ⟨M', g1, g2, by rw [g3, vset_ne (by omega)], g4⟩
  · rw [if_neg h1, if_pos (hw.2.1.mpr h1)]
    obtain ⟨g, hg, hg2⟩ := hO.2
    have e5 : M.1 100 5 = nI g := by rw [← hg2]; exact (pM_at (pdS (k := 2) (by omega))).symm
    obtain ⟨M1, f1, f2, f3, f4⟩ := r_falls (M := M) (n := n) (T := T) (by' := by') (wy := wy) hf hg hw.1
    rw [cl5, e5, zcIM_some f1, hg2]
    dsimp only
    have go : ∀ y : Int32, ∃ M', gX10_passes_J203 (nI f) y M1 = some M' ∧ FrM f M M' ∧ vM n T M' f = vset (vset (vset (vM n T M f) 0 14 (sCome (nI g).toInt64 wy (vM n T M f 0 14)).2) 0 11 (sHeat (vM n T M f 0 11) (if y = 0 then pM n T L M 12 1 else pM n T L M 12 1 + 5))) 0 10 (vM n T M f 0 10 + 1) ∧ M'.1 98 53 = M.1 98 53 := by
      intro y
      obtain ⟨M', g1, g2, g3, g4⟩ := r_203 (y := y) (hM.fr f2) hf
      rw [pM_fr f2, f3, vset_ne (show ¬ (0 = 0 ∧ 11 = 14) by omega), vset_ne (show ¬ (0 = 0 ∧ 10 = 14) by omega)] at g3
      exact ⟨M', g1, f2.tr g2, g3, by rw [g4, f4]⟩
    cases hc : (sCome (nI g).toInt64 wy (vM n T M f 0 14)).1 with
    | true =>
      rw [if_neg (show ¬ b2i true = 0 by decide)]
      obtain ⟨M', g1, g2, g3, g4⟩ := go 1
      rw [if_neg (by decide)] at g3
      exact ⟨M', g1, g2, by rw [g3, if_pos rfl, vset_ne (show ¬ (0 = 0 ∧ 10 = 11) by omega), vset_ne (show ¬ (0 = 0 ∧ 10 = 14) by omega)], g4⟩
    | false =>
      rw [if_pos (show b2i false = 0 by decide)]
      obtain ⟨M', g1, g2, g3, g4⟩ := go 0
      rw [if_pos rfl] at g3
      exact ⟨M', g1, g2, by rw [g3, if_neg (show ¬ false = true by decide), vset_ne (show ¬ (0 = 0 ∧ 10 = 11) by omega), vset_ne (show ¬ (0 = 0 ∧ 10 = 14) by omega)], g4⟩
theorem r_109 {M : zM} {n T L f : Nat} {wy by' : Int32} (hM : MC M n T L) (hf : f < 23) (hw : wyOK M wy by') (hO : pOd (pM n T L M)) :
    ∃ M', zfix zFu (gX10_passes_L109 (nI f) by') (0, M) = some M' ∧ FrM f M M' ∧ vM n T M' f = sEnd2 (pM n T L M) T wy (vM n T M f) ∧ M'.1 98 53 = M.1 98 53 := by
  have hTT := hM.2.1
  unfold sEnd2
  by_cases h4 : M.1 98 51 = 4
  · rw [if_neg (fun z => (hw.2.2.2.1.mp z) h4)]
    obtain ⟨M', g1, g2, g3, g4⟩ := r_175 hM hf hw hO
    refine ⟨M', ?_, g2, g3, g4⟩
    rw [show zFu = 99999 + 1 from rfl, zfix_succ]
    generalize zfix 99999 (gX10_passes_L109 (nI f) by') = rc
    unfold gX10_passes_L109
    dsimp only
    rw [if_pos h4]
    split
    · exact g1
    · exact g1
  · rw [if_pos (hw.2.2.2.1.mpr h4)]
    obtain ⟨s', N', ⟨e1, e2, e3, e4⟩, hz⟩ := zfix_inv (B := gX10_passes_L109 (nI f) by') (fun k (s : Int32 × zM) => s.1 = nI k ∧ FrM f M s.2 ∧ vM n T s.2 f = sBurns (vM n T M f) k ∧ s.2.1 98 53 = M.1 98 53) T (by
      intro k hkT s ⟨q1, q2, q3, q4⟩
      obtain ⟨i, Mk⟩ := s
      dsimp only at q1 q2 q3 q4
      subst q1
      have hMk := hM.fr q2
      have k4 : ¬ Mk.1 98 51 = 4 := by rw [q2.1 98 51 (MF_98 (by omega) (by omega))]; exact h4
      have a10 : Mk.1 118 f = vM n T Mk f 0 10 := (vM_0 (k := 10) (by omega) (by omega)).symm
      have a8 : Mk.1 130 (8 * f + k) = vM n T Mk f 8 k := (vM_t (c := 8) (by omega) (by omega) hkT).symm
      have a9 : Mk.1 131 (8 * f + k) = vM n T Mk f 9 k := (vM_t (c := 9) (by omega) (by omega) hkT).symm
      have body : ∀ rc : (Int32 × zM) → Option zM, gX10_passes_L109 (nI f) by' rc (nI k, Mk) = (if vM n T Mk f 8 k = 0 then (if vM n T Mk f 9 k = vM n T Mk f 0 10 then rc (nI (k + 1), zI Mk 130 (8 * f + k) 3) else rc (nI (k + 1), Mk)) else rc (nI (k + 1), Mk)) := by
        intro rc
        unfold gX10_passes_L109
        dsimp only
        rw [cl1, hMk.2.1.1, if_neg (nI_ge hkT (by omega)), if_neg k4, nI_8, zg_true (zok_nI (show 8 * f + k < 184 by omega) (by omega)), nI_cl (show 8 * f + k < 2 ^ 31 by omega), a8, zg_true (zok_nI (show 8 * f + k < 184 by omega) (by omega)), zg_true (zok_nI hf (by omega)), a9, nI_cl (show f < 2 ^ 31 by omega), a10, zg_true (zok_nI (show 8 * f + k < 184 by omega) (by omega)), zlet_eq, nI_1]
      show ∃ s' : Int32 × zM, (s'.1 = nI (k + 1) ∧ FrM f M s'.2 ∧ vM n T s'.2 f = sBurn (sBurns (vM n T M f) k) k ∧ s'.2.1 98 53 = M.1 98 53) ∧ _
      rw [← q3]
      unfold sBurn
      by_cases c1 : vM n T Mk f 8 k = 0
      · by_cases c2 : vM n T Mk f 9 k = vM n T Mk f 0 10
        · refine ⟨(nI (k + 1), zI Mk 130 (8 * f + k) 3), ⟨rfl, q2.tr (FrM.put (mf_t (by omega))), ?_, ?_⟩, fun rc => ?_⟩
          · rw [if_pos c1, if_pos c2]
            exact vM_put (M := Mk) (f := f) (x := 3) (vdT (n := n) (T := T) (c := 8) (by omega) (by omega) hkT) (by decide)
          · dsimp only
            rw [zI_of (by omega), q4]
          · rw [body, if_pos c1, if_pos c2]
        · refine ⟨(nI (k + 1), Mk), ⟨rfl, q2, ?_, q4⟩, fun rc => ?_⟩
          · rw [if_pos c1, if_neg c2]
          · rw [body, if_pos c1, if_neg c2]
      · refine ⟨(nI (k + 1), Mk), ⟨rfl, q2, ?_, q4⟩, fun rc => ?_⟩
        · rw [if_neg c1]
        · rw [body, if_neg c1]) T 0 zFu (0, M) (by omega) (by unfold zFu; omega) ⟨nI_0.symm, FrM.rf, rfl, rfl⟩
    obtain ⟨i, Mk⟩ := s'
    dsimp only at e1 e2 e3 e4
    subst e1
    obtain ⟨M', g1, g2, g3, g4⟩ := r_175 (hM.fr e2) hf (hw.fr e2) (by rw [pM_fr e2]; exact hO)
    rw [pM_fr e2, e3] at g3
    refine ⟨M', ?_, e2.tr g2, g3, by rw [g4, e4]⟩
    rw [hz]
    unfold gX10_passes_L109
    dsimp only
    rw [cl1, (hM.fr e2).2.1.1, if_pos (nI_le (Nat.le_refl _) (by omega))]
    exact g1
