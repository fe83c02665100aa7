/-! a STEP, piece by piece -/
theorem vset_same {V : AV} {c k : Nat} {x : Int32} (h : V c k = x) : vset V c k x = V := by
  funext c' k'
  unfold vset
  by_cases e : c' = c ∧ k' = k
  · rw [if_pos e, e.1, e.2, h]
  · rw [if_neg e]
theorem vset_at {V : AV} {c k : Nat} {x : Int32} : vset V c k x c k = x := if_pos ⟨rfl, rfl⟩
theorem vset_ne {V : AV} {c k c' k' : Nat} {x : Int32} (h : ¬ (c' = c ∧ k' = k)) : vset V c k x c' k' = V c' k' := if_neg h
/-- odds of a hundred: whether it comes true, and the last number -/
def sCome (odds : Int64) (wy : Int32) (num : Int32) : Bool × Int32 :=
  if odds ≤ 0 then (false, num)
  else if odds < 100 then (if wy &&& 1 = 0 then (!decide (odds < 50), num) else
    (!decide (odds ≤ (((((num * 1103515245) + 12345) &&& 2147483647) >>> ((16 : Int32) &&& 31)) - ((((num * 1103515245) + 12345) &&& 2147483647) >>> ((16 : Int32) &&& 31)) / 100 * 100).toInt64), ((num * 1103515245) + 12345) &&& 2147483647))
  else (true, num)
theorem v14 {n T : Nat} : vdim n T 0 14 = true := rfl
theorem s_come {M : zM} {w p n T : Nat} {odds : Int64} {wy : Int32} :
    ∃ M', gX8_comesTrue w odds wy M = some (b2i (sCome odds wy (vC n T M w 0 14)).1, M') ∧ FrW w p M M' ∧ vC n T M' w = vset (vC n T M w) 0 14 (sCome odds wy (vC n T M w 0 14)).2 ∧ M'.1 w 15 = M.1 w 15 := by
  have e14 : vC n T M w 0 14 = M.1 w 14 := vC_at v14
  unfold gX8_comesTrue gX8_comesTrue_J14 sCome
  simp only [lg_cmp_le, lg_cmp_lt, lg_cmp_ge]
  by_cases h1 : odds ≤ 0
  · have h2 : odds < 100 := by
      rw [Int64.le_iff_toInt_le] at h1
      rw [Int64.lt_iff_toInt_lt]
      have e0 : (0 : Int64).toInt = 0 := by decide
      have e1 : (100 : Int64).toInt = 100 := by decide
      rw [e0] at h1; rw [e1]; omega
    rw [if_pos h1, if_pos h1, if_pos h2]
    exact ⟨M, rfl, FrW.rf, (vset_same rfl).symm, rfl⟩
  · rw [if_neg h1, if_neg h1]
    by_cases h2 : odds < 100
    · rw [if_pos h2, if_pos h2]
      by_cases h3 : wy &&& 1 = 0
      · rw [if_pos h3, if_pos h3]
        by_cases h4 : odds < 50
        · rw [if_pos h4]; exact ⟨M, by simp [h4, b2i], FrW.rf, (vset_same rfl).symm, rfl⟩
        · rw [if_neg h4]; exact ⟨M, by simp [h4, b2i], FrW.rf, (vset_same rfl).symm, rfl⟩
      · rw [if_neg h3, if_neg h3, zlet_eq, zI_at, e14]
        have hv := vC_put (M := M) (w := w) (x := (((M.1 w 14) * 1103515245) + 12345) &&& 2147483647) (v14 (n := n) (T := T))
        by_cases h4 : odds ≤ (((((M.1 w 14 * 1103515245) + 12345) &&& 2147483647) >>> ((16 : Int32) &&& 31)) - ((((M.1 w 14 * 1103515245) + 12345) &&& 2147483647) >>> ((16 : Int32) &&& 31)) / 100 * 100).toInt64
        · rw [if_pos h4]; exact ⟨_, by simp [h4, b2i], FrW.put0, hv, zI_of (by omega)⟩
        · rw [if_neg h4]; exact ⟨_, by simp [h4, b2i], FrW.put0, hv, zI_of (by omega)⟩
    · rw [if_neg h2, if_neg h2, if_neg h2]
      exact ⟨M, rfl, FrW.rf, (vset_same rfl).symm, rfl⟩
def sHurt (P V : AV) (LW : Nat → Option (List (Int32 × Int32))) (wy : Int32) (m t : Nat) : Bool × Int32 :=
  if wy &&& 4 = 0 then sCome ((sLaw LW 2 (sFacts P V m (some t) 0)).getD (P 12 3).toInt64) wy (V 0 14) else (false, V 0 14)
theorem zbit_b2i (b : Bool) : zbit (b2i b) = true := by cases b <;> decide
theorem s_hurt {M : zM} {w p n T L m t : Nat} {wy : Int32} (hW : WC M w p n T L) (hm : m < n) (ht : t < T) :
    ∃ M', gX8_isHurt w (nI m) (nI t) wy M = some (b2i (sHurt (pC n T L M p) (vC n T M w) (lawC M p) wy m t).1, M') ∧ FrW w p M M' ∧ vC n T M' w = vset (vC n T M w) 0 14 (sHurt (pC n T L M p) (vC n T M w) (lawC M p) wy m t).2 ∧ M'.1 w 15 = M.1 w 15 := by
  have hW0 := hW
  obtain ⟨h1, h2, hp, hn, hT, hL, hl⟩ := hW
  unfold gX8_isHurt sHurt
  by_cases h4 : wy &&& 4 = 0
  · rw [if_pos h4, if_pos h4]
    obtain ⟨M1, f1, f2, f3, f4⟩ := s_setFacts (o := some t) (more := 0) hW0 hm (fun q hq => by cases hq; exact ht)
    obtain ⟨M2, g1, g2⟩ := s_law (j := 2) hW0 (by omega) f2 f4
    have f1 : gX8_setFacts w (nI m) (nI t) 0 M = some M1 := f1
    rw [← nI_lit2] at g1
    rw [zcV_some f1, zgP_some (by rw [f2.2.1]; exact h2) hp, zcLM_some g1]
    simp only [lg_cmp_eq]
    have go : ∀ odds : Int64, ∃ M', gX8_isHurt_J53 w wy odds M2 = some (b2i (sCome odds wy (vC n T M w 0 14)).1, M') ∧ FrW w p M M' ∧ vC n T M' w = vset (vC n T M w) 0 14 (sCome odds wy (vC n T M w 0 14)).2 ∧ M'.1 w 15 = M.1 w 15 := by
      intro odds
      obtain ⟨M3, k1, k2, k3, k4⟩ := s_come (M := M2) (w := w) (p := p) (n := n) (T := T) (odds := odds) (wy := wy)
      rw [vC_eq g2.1] at k1 k3
      unfold gX8_isHurt_J53
      rw [zcIM_some k1, zg_true (zbit_b2i _)]
      exact ⟨M3, rfl, g2.W.tr k2, k3, by rw [k4, g2.1]⟩
    cases hs : sLaw (lawC M p) 2 (sFacts (pC n T L M p) (vC n T M w) m (some t) 0) with
    | some v =>
      rw [Option.getD_some, Option.getD_some, if_neg (eB_ne (sLaw_B (sFacts_B _ _ _ _ _) hs))]
      exact go v
    | none =>
      rw [Option.getD_none, Option.getD_none, if_pos rfl, zgP_some (by rw [g2.2.1]; exact h2) hp, cl3, g2.1, pC_at (pdS (by omega))]
      exact go _
  · rw [if_neg h4, if_neg h4]
    exact ⟨M, rfl, FrW.rf, (vset_same rfl).symm, rfl⟩
def sLeave (V : AV) (m : Nat) (x : Int32) : AV := vset (vset (vset V 4 m x) 5 m (-2)) 6 m 0
theorem s_leave {M : zM} {w p n T L m : Nat} {x : Int32} (hW : WC M w p n T L) (hm : m < n) :
    ∃ M', gX8_leaveThing w (nI m) x M = some M' ∧ FrW w p M M' ∧ vC n T M' w = sLeave (vC n T M w) m x ∧ M'.1 w 15 = M.1 w 15 := by
  obtain ⟨h1, h2, hp, hn, hT, hL, hl⟩ := hW
  have hm6 : m < 6 := by omega
  unfold gX8_leaveThing sLeave
  rw [zg_true (zok_nI hm6 (by omega)), zlet_eq, zg_true (zok_nI hm6 (by omega)), zlet_eq, zg_true (zok_nI hm6 (by omega)), zlet_eq, nI_cl (by omega)]
  refine ⟨_, rfl, (FrW.put (by omega)).tr ((FrW.put (by omega)).tr (FrW.put (by omega))), ?_, ?_⟩
  · rw [vC_put (vd (by omega) (by omega) hm), vC_put (vd (by omega) (by omega) hm), vC_put (vd (by omega) (by omega) hm)]
  · rw [zI_of (by omega), zI_of (by omega), zI_of (by omega)]
def sClamp (v : Int64) : Int32 := (if (if v < 9 then v else 9) < (-9) then (-9) else (if v < 9 then v else 9) : Int64).toInt32
def sRue (r x : Int32) : Int32 := if 0 < (if (r + x) < 99 then (r + x) else 99) then (if (r + x) < 99 then (r + x) else 99) else 0
def sCrowd (c x : Int32) : Int32 := if (c + x) < 9999 then (c + x) else 9999
def sSave1 (P V : AV) (t : Nat) : AV := vset (vset V 8 t 2) 0 12 (sCrowd (V 0 12) (P 6 t))
def sSave (P V : AV) (LW : Nat → Option (List (Int32 × Int32))) (m t : Nat) : AV := match sLaw LW 1 (sFacts P (sSave1 P V t) m (some t) 0) with
  | none => sSave1 P V t
  | some v => vset (sSave1 P V t) 2 m (sRue (V 2 m) (sClamp v))
theorem v12 {n T : Nat} : vdim n T 0 12 = true := rfl
theorem s_save {M : zM} {w p n T L m t : Nat} (hW : WC M w p n T L) (hm : m < n) (ht : t < T) :
    ∃ M', gX8_saveThing w (nI m) (nI t) M = some M' ∧ FrW w p M M' ∧ vC n T M' w = sSave (pC n T L M p) (vC n T M w) (lawC M p) m t ∧ M'.1 w 15 = M.1 w 15 := by
  have hW0 := hW
  obtain ⟨h1, h2, hp, hn, hT, hL, hl⟩ := hW
  have hm6 : m < 6 := by omega
  have ht8 : t < 8 := by omega
  have a1 := isW_ge h1
  have a2 := isPl_lt hp
  unfold gX8_saveThing
  rw [zg_true (zok_nI ht8 (by omega)), zlet_eq, zgP_some (by exact h2) hp, zg_true (zok_nI ht8 (by omega)), zlet_eq, nI_cl (by omega), zI_of (show ¬ (w = w + 8 ∧ 12 = t) by omega), zI_of (show ¬ (p + 6 = w + 8 ∧ t = t) by omega)]
  have hfr : FrW w p M (zI (zI M (w + 8) t 2) w 12 (sCrowd (M.1 w 12) (M.1 (p + 6) t))) := (FrW.put (by omega)).tr FrW.put0
  have hv : vC n T (zI (zI M (w + 8) t 2) w 12 (sCrowd (M.1 w 12) (M.1 (p + 6) t))) w = sSave1 (pC n T L M p) (vC n T M w) t := by
    have := vC_put (M := zI M (w + 8) t 2) (w := w) (x := sCrowd (M.1 w 12) (M.1 (p + 6) t)) (v12 (n := n) (T := T))
    rw [show w + 0 = w from rfl] at this
    rw [this, vC_put (vdT (by omega) (by omega) ht)]
    unfold sSave1
    rw [vC_at (c := 0) (k := 12) rfl, pC_at (pdT (c := 6) (by omega) (by omega) ht)]
    rfl
  have h15 : (zI (zI M (w + 8) t 2) w 12 (sCrowd (M.1 w 12) (M.1 (p + 6) t))).1 w 15 = M.1 w 15 := by rw [zI_of (by omega), zI_of (by omega)]
  show ∃ M', zcV (gX8_setFacts w (nI m) (nI t) 0 (zI (zI M (w + 8) t 2) w 12 (sCrowd (M.1 w 12) (M.1 (p + 6) t)))) _ = _ ∧ _
  generalize zI (zI M (w + 8) t 2) w 12 (sCrowd (M.1 w 12) (M.1 (p + 6) t)) = M7 at hfr hv h15 ⊢
  have hW7 := hW0.fr hfr
  obtain ⟨M1, f1, f2, f3, f4⟩ := s_setFacts (o := some t) (more := 0) hW7 hm (fun q hq => by cases hq; exact ht)
  obtain ⟨M2, g1, g2⟩ := s_law (j := 1) hW7 (by omega) f2 f4
  have f1 : gX8_setFacts w (nI m) (nI t) 0 M7 = some M1 := f1
  rw [← nI_lit1] at g1
  rw [pC_fr hW0 hfr, lawC_fr hW0 hfr, hv] at g1
  rw [zcV_some f1, zgP_some (by rw [f2.2.1]; exact hW7.2.1) hp, zcLM_some g1]
  simp only [lg_cmp_eq]
  unfold sSave
  cases hs : sLaw (lawC M p) 1 (sFacts (pC n T L M p) (sSave1 (pC n T L M p) (vC n T M w) t) m (some t) 0) with
  | none =>
    rw [Option.getD_none, if_pos rfl]
    exact ⟨M2, rfl, hfr.tr g2.W, by rw [vC_eq g2.1, hv], by rw [g2.1, h15]⟩
  | some v =>
    rw [Option.getD_some, if_neg (eB_ne (sLaw_B (sFacts_B _ _ _ _ _) hs)), zlet_eq, zg_true (zok_nI hm6 (by omega)), zg_true (zok_nI hm6 (by omega)), zlet_eq, nI_cl (by omega)]
    refine ⟨_, rfl, (hfr.tr g2.W).tr (FrW.put (by omega)), ?_, ?_⟩
    · rw [vC_put (vd (by omega) (by omega) hm), vC_eq g2.1, hv]
      have er : M2.1 (w + 2) m = vC n T M w 2 m := by
        rw [g2.1, ← vC_at (n := n) (T := T) (vd (c := 2) (by omega) (by omega) hm), hv]
        unfold sSave1
        rw [vset_ne (by omega), vset_ne (by omega)]
      rw [er]
      rfl
    · rw [zI_of (by omega), g2.1, h15]
