/-! looks paid, things burnt, heat -/
def sPay (P V : AV) (k : Nat) : AV :=
  if P 10 k = V 0 10 then (if P 11 k ≤ V 0 12 then vset (vset V 0 12 (V 0 12 - P 11 k)) 3 (P 9 k).toNatClampNeg (V 3 (P 9 k).toNatClampNeg + P 11 k) else vset V 0 13 (V 0 13 + 1)) else V
def sPays (P V : AV) : Nat → AV
  | 0 => V
  | k + 1 => sPay P (sPays P V k) k
def pLk (P : AV) (n L : Nat) : Prop := ∀ k, k < L → ∃ m, m < n ∧ P 9 k = nI m
theorem v13 {n T : Nat} : vdim n T 0 13 = true := rfl
theorem v11 {n T : Nat} : vdim n T 0 11 = true := rfl
theorem v10 {n T : Nat} : vdim n T 0 10 = true := rfl
theorem s_pays {M : zM} {w p n T L : Nat} (hW : WC M w p n T L) (hk : pLk (pC n T L M p) n L) :
    ∃ M', gX8_payLooks w M = some M' ∧ FrW w p M M' ∧ vC n T M' w = sPays (pC n T L M p) (vC n T M w) L ∧ M'.1 w 15 = M.1 w 15 := by
  have hW0 := hW
  obtain ⟨h1, h2, hp, hn, hT, hL, hl⟩ := hW
  unfold gX8_payLooks
  obtain ⟨s', N', ⟨e1, e2, e3, e4⟩, hz⟩ := zfix_inv (B := gX8_payLooks_L2 w) (fun k (s : Int32 × zM) => s.1 = nI k ∧ FrW w p M s.2 ∧ vC n T s.2 w = sPays (pC n T L M p) (vC n T M w) k ∧ s.2.1 w 15 = M.1 w 15) L (by
    intro k hkL s ⟨q1, q2, q3, q4⟩
    obtain ⟨i, Mk⟩ := s
    dsimp only at q1 q2 q3 q4
    subst q1
    have hWk := hW0.fr q2
    have hpk : Mk.2.2 w 0 = some p := hWk.2.1
    have hk10 : k < 10 := by omega
    have eL : Mk.1 p 10 = nI L := hWk.2.2.2.2.2.1.1
    have p9 : Mk.1 (p + 9) k = pC n T L M p 9 k := by rw [← pC_fr hW0 q2]; exact (pC_at (pdL (by omega) (by omega) hkL)).symm
    have p10 : Mk.1 (p + 10) k = pC n T L M p 10 k := by rw [← pC_fr hW0 q2]; exact (pC_at (pdL (by omega) (by omega) hkL)).symm
    have p11 : Mk.1 (p + 11) k = pC n T L M p 11 k := by rw [← pC_fr hW0 q2]; exact (pC_at (pdL (by omega) (by omega) hkL)).symm
    obtain ⟨m, hm, hm9⟩ := hk k hkL
    have hm6 : m < 6 := by omega
    have a10 : Mk.1 w 10 = vC n T Mk w 0 10 := (vC_at v10).symm
    have a12 : Mk.1 w 12 = vC n T Mk w 0 12 := (vC_at v12).symm
    have a13 : Mk.1 w 13 = vC n T Mk w 0 13 := (vC_at v13).symm
    have a3 : Mk.1 (w + 3) m = vC n T Mk w 3 m := (vC_at (vd (by omega) (by omega) hm)).symm
    have body : ∀ rc : (Int32 × zM) → Option zM, gX8_payLooks_L2 w rc (nI k, Mk) = (if pC n T L M p 10 k = vC n T Mk w 0 10 then zcV (gX8_payLook w (nI m) (pC n T L M p 11 k) Mk) (fun M12 => rc (nI (k + 1), M12)) else rc (nI (k + 1), Mk)) := by
      intro rc
      unfold gX8_payLooks_L2
      dsimp only
      rw [zgP_some hpk hp, eL, if_neg (nI_ge hkL (by omega)), nI_lit10, if_neg (nI_ge hk10 (by omega)), zgP_some hpk hp, zg_true (zok_nI hk10 (by omega)), nI_cl (by omega), p10, a10, zgP_some hpk hp, zg_true (zok_nI hk10 (by omega)), zgP_some hpk hp, zg_true (zok_nI hk10 (by omega)), p9, p11, hm9, nI_1]
    have pay : gX8_payLook w (nI m) (pC n T L M p 11 k) Mk = (if pC n T L M p 11 k ≤ vC n T Mk w 0 12 then some (zI (zI Mk w 12 (vC n T Mk w 0 12 - pC n T L M p 11 k)) (w + 3) m (vC n T Mk w 3 m + pC n T L M p 11 k)) else some (zI Mk w 13 (vC n T Mk w 0 13 + 1))) := by
      unfold gX8_payLook
      rw [a12, if_neg (nI_pos (by omega)), nI_lit6, if_neg (nI_ge hm6 (by omega)), zlet_eq, zg_true (zok_nI hm6 (by omega)), zg_true (zok_nI hm6 (by omega)), zlet_eq, nI_cl (by omega), zI_of (show ¬ (w + 3 = w ∧ m = 12) by omega), a3, a13, zlet_eq]
    show ∃ s' : Int32 × zM, (s'.1 = nI (k + 1) ∧ FrW w p M s'.2 ∧ vC n T s'.2 w = sPay (pC n T L M p) (sPays (pC n T L M p) (vC n T M w) k) k ∧ s'.2.1 w 15 = M.1 w 15) ∧ _
    rw [← q3]
    unfold sPay
    rw [hm9, nI_cl (by omega)]
    by_cases c1 : pC n T L M p 10 k = vC n T Mk w 0 10
    · by_cases c2 : pC n T L M p 11 k ≤ vC n T Mk w 0 12
      · refine ⟨(nI (k + 1), zI (zI Mk w 12 (vC n T Mk w 0 12 - pC n T L M p 11 k)) (w + 3) m (vC n T Mk w 3 m + pC n T L M p 11 k)), ⟨rfl, q2.tr (FrW.put0.tr (FrW.put (by omega))), ?_, ?_⟩, fun rc => ?_⟩
        · rw [if_pos c1, if_pos c2]
          dsimp only
          rw [vC_put (vd (by omega) (by omega) hm)]
          congr 1
          exact vC_put (c := 0) v12
        · dsimp only
          rw [zI_of (by omega), zI_of (by omega), q4]
        · rw [body, if_pos c1, pay, if_pos c2]; rfl
      · refine ⟨(nI (k + 1), zI Mk w 13 (vC n T Mk w 0 13 + 1)), ⟨rfl, q2.tr FrW.put0, ?_, ?_⟩, fun rc => ?_⟩
        · rw [if_pos c1, if_neg c2]
          exact vC_put (c := 0) v13
        · dsimp only
          rw [zI_of (by omega), q4]
        · rw [body, if_pos c1, pay, if_neg c2]; rfl
    · refine ⟨(nI (k + 1), Mk), ⟨rfl, q2, ?_, q4⟩, fun rc => ?_⟩
      · rw [if_neg c1]
      · rw [body, if_neg c1]) L 0 zFu (0, M) (by omega) (by unfold zFu; omega) ⟨nI_0.symm, FrW.rf, rfl, rfl⟩
  obtain ⟨i, M'⟩ := s'
  dsimp only at e1 e2 e3 e4
  subst e1
  refine ⟨M', ?_, e2, e3, e4⟩
  rw [hz]
  unfold gX8_payLooks_L2
  dsimp only
  have hWk := hW0.fr e2
  rw [zgP_some hWk.2.1 hp, hWk.2.2.2.2.2.1.1, if_pos (nI_le (Nat.le_refl _) (by omega))]
def sBurn (V : AV) (t : Nat) : AV := if V 8 t = 0 then (if V 9 t = V 0 10 then vset V 8 t 3 else V) else V
def sBurns (V : AV) : Nat → AV
  | 0 => V
  | t + 1 => sBurn (sBurns V t) t
theorem s_burns {M : zM} {w p n T L : Nat} (hW : WC M w p n T L) :
    ∃ M', gX8_burnThings w M = some M' ∧ FrW w p M M' ∧ vC n T M' w = sBurns (vC n T M w) T ∧ M'.1 w 15 = M.1 w 15 := by
  have hW0 := hW
  obtain ⟨h1, h2, hp, hn, hT, hL, hl⟩ := hW
  unfold gX8_burnThings
  obtain ⟨s', N', ⟨e1, e2, e3, e4⟩, hz⟩ := zfix_inv (B := gX8_burnThings_L2 w) (fun k (s : Int32 × zM) => s.1 = nI k ∧ FrW w p M s.2 ∧ vC n T s.2 w = sBurns (vC n T M w) k ∧ s.2.1 w 15 = M.1 w 15) T (by
    intro k hkT s ⟨q1, q2, q3, q4⟩
    obtain ⟨i, Mk⟩ := s
    dsimp only at q1 q2 q3 q4
    subst q1
    have hWk := hW0.fr q2
    have hpk : Mk.2.2 w 0 = some p := hWk.2.1
    have hk8 : k < 8 := by omega
    have eT : Mk.1 p 5 = nI T := hWk.2.2.2.2.1.1
    have a10 : Mk.1 w 10 = vC n T Mk w 0 10 := (vC_at v10).symm
    have a8 : Mk.1 (w + 8) k = vC n T Mk w 8 k := (vC_at (vdT (by omega) (by omega) hkT)).symm
    have a9 : Mk.1 (w + 9) k = vC n T Mk w 9 k := (vC_at (vdT (by omega) (by omega) hkT)).symm
    have body : ∀ rc : (Int32 × zM) → Option zM, gX8_burnThings_L2 w rc (nI k, Mk) = (if vC n T Mk w 8 k = 0 then (if vC n T Mk w 9 k = vC n T Mk w 0 10 then rc (nI (k + 1), zI Mk (w + 8) k 3) else rc (nI (k + 1), Mk)) else rc (nI (k + 1), Mk)) := by
      intro rc
      unfold gX8_burnThings_L2
      dsimp only
      rw [zgP_some hpk hp, eT, if_neg (nI_ge hkT (by omega)), nI_lit8, if_neg (nI_ge hk8 (by omega)), zg_true (zok_nI hk8 (by omega)), nI_cl (by omega), a8, zg_true (zok_nI hk8 (by omega)), a9, a10, zg_true (zok_nI hk8 (by omega)), zlet_eq, nI_1]
    show ∃ s' : Int32 × zM, (s'.1 = nI (k + 1) ∧ FrW w p M s'.2 ∧ vC n T s'.2 w = sBurn (sBurns (vC n T M w) k) k ∧ s'.2.1 w 15 = M.1 w 15) ∧ _
    rw [← q3]
    unfold sBurn
    by_cases c1 : vC n T Mk w 8 k = 0
    · by_cases c2 : vC n T Mk w 9 k = vC n T Mk w 0 10
      · refine ⟨(nI (k + 1), zI Mk (w + 8) k 3), ⟨rfl, q2.tr (FrW.put (by omega)), ?_, ?_⟩, fun rc => ?_⟩
        · rw [if_pos c1, if_pos c2]
          exact vC_put (vdT (by omega) (by omega) hkT)
        · dsimp only
          rw [zI_of (by omega), q4]
        · rw [body, if_pos c1, if_pos c2]
      · refine ⟨(nI (k + 1), Mk), ⟨rfl, q2, ?_, q4⟩, fun rc => ?_⟩
        · rw [if_pos c1, if_neg c2]
        · rw [body, if_pos c1, if_neg c2]
    · refine ⟨(nI (k + 1), Mk), ⟨rfl, q2, ?_, q4⟩, fun rc => ?_⟩
      · rw [if_neg c1]
      · rw [body, if_neg c1]) T 0 zFu (0, M) (by omega) (by unfold zFu; omega) ⟨nI_0.symm, FrW.rf, rfl, rfl⟩
  obtain ⟨i, M'⟩ := s'
  dsimp only at e1 e2 e3 e4
  subst e1
  refine ⟨M', ?_, e2, e3, e4⟩
  rw [hz]
  unfold gX8_burnThings_L2
  dsimp only
  have hWk := hW0.fr e2
  rw [zgP_some hWk.2.1 hp, hWk.2.2.2.2.1.1, if_pos (nI_le (Nat.le_refl _) (by omega))]
def sHeat (h x : Int32) : Int32 := if (h + x) < 999 then (h + x) else 999
def sGrow (P V : AV) (wy : Int32) : AV :=
  if wy &&& 2 = 0 then (let c := sCome (P 12 2).toInt64 wy (V 0 14)
    vset (vset V 0 14 c.2) 0 11 (sHeat (V 0 11) (if c.1 = true then P 12 1 + 5 else P 12 1)))
  else vset V 0 11 (sHeat (V 0 11) (P 12 1))
theorem s_grow {M : zM} {w p n T L : Nat} {wy : Int32} (hW : WC M w p n T L) :
    ∃ M', gX8_growHeat w wy M = some M' ∧ FrW w p M M' ∧ vC n T M' w = sGrow (pC n T L M p) (vC n T M w) wy ∧ M'.1 w 15 = M.1 w 15 := by
  obtain ⟨h1, h2, hp, hn, hT, hL, hl⟩ := hW
  unfold gX8_growHeat sGrow
  rw [zgP_some h2 hp, zlet_eq, cl1, cl2, zgP_some h2 hp, pC_at (pdS (k := 1) (by omega)), pC_at (pdS (k := 2) (by omega))]
  by_cases h : wy &&& 2 = 0
  · rw [if_pos h, if_pos h]
    obtain ⟨M1, k1, k2, k3, k4⟩ := s_come (M := M) (w := w) (p := p) (n := n) (T := T) (odds := (M.1 (p + 12) 2).toInt64) (wy := wy)
    rw [zcIM_some k1]
    dsimp only
    have a11 : M1.1 w 11 = vC n T M w 0 11 := by
      have : M1.1 w 11 = vC n T M1 w 0 11 := (vC_at v11).symm
      rw [this, k3, vset_ne (by omega)]
    have go : ∀ x : Int32, ∃ M', gX8_growHeat_J37 w x M1 = some M' ∧ FrW w p M M' ∧ vC n T M' w = vset (vset (vC n T M w) 0 14 (sCome (M.1 (p + 12) 2).toInt64 wy (vC n T M w 0 14)).2) 0 11 (sHeat (vC n T M w 0 11) x) ∧ M'.1 w 15 = M.1 w 15 := by
      intro x
      unfold gX8_growHeat_J37
      rw [zlet_eq, a11]
      refine ⟨_, rfl, k2.tr FrW.put0, ?_, by rw [zI_of (by omega), k4]⟩
      have := vC_put (M := M1) (w := w) (x := sHeat (vC n T M w 0 11) x) (v11 (n := n) (T := T))
      rw [k3] at this
      exact this
    cases hc : (sCome (M.1 (p + 12) 2).toInt64 wy (vC n T M w 0 14)).1 with
    | true => rw [if_neg (by decide), if_pos rfl]; exact go _
    | false => rw [if_pos (by decide), if_neg (by decide)]; exact go _
  · rw [if_neg h, if_neg h]
    unfold gX8_growHeat_J37
    rw [zlet_eq]
    refine ⟨_, rfl, FrW.put0, ?_, zI_of (by omega)⟩
    have a11 : M.1 w 11 = vC n T M w 0 11 := (vC_at v11).symm
    rw [a11]
    exact vC_put (c := 0) v11
