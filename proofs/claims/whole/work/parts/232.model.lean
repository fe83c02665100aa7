theorem FrS.rf {M : zM} : FrS M M := ⟨fun _ _ _ => rfl, rfl, fun _ _ _ => rfl⟩
theorem FrS.tr {M M1 M2 : zM} (h : FrS M M1) (h2 : FrS M1 M2) : FrS M M2 := ⟨fun a i q => by rw [h2.1 a i q, h.1 a i q], by rw [h2.2.1, h.2.1], fun a q1 q2 => by rw [h2.2.2 a q1 q2, h.2.2 a q1 q2]⟩
theorem r_dares {M : zM} {n T L f m t : Nat} {more : Int32} (hM : MC M n T L) (hf : f < 23) (hm : m < n) (ht : t < T) :
    ∃ M', gX10_dares (nI f) (nI m) (nI t) more M = some (b2i (sDares (pM n T L M) (vM n T M f) (lawM M) m t more), M') ∧ FrS M M' := by
  have hn := hM.1
  obtain ⟨M1, c1, c2, c3, c4, c5⟩ := r_calls (o := some t) (more := more) hM hf hm (fun q hq => by cases hq; exact ht)
  have c1 : gX10_calls (nI f) (nI m) (nI t) more M = some M1 := c1
  obtain ⟨l1, l2⟩ := r_law (j := 0) hM (by omega) c2 c5 (sFacts_B _ _ _ _ _)
  rw [nI_0] at l1 l2
  have fr1 : FrS M M1 := ⟨fun a i _ => by rw [c2], c3, fun a q1 _ => c4 a q1⟩
  have e1 : pM n T L M 2 m = M.1 102 m := pM_at (pdN (by omega) (by omega) hm)
  have e3 : vM n T M f 2 m = M.1 123 (6 * f + m) := vM_m (by omega) (by omega) (by omega) hm
  have e4 : vM n T M f 3 m = M.1 124 (6 * f + m) := vM_m (by omega) (by omega) (by omega) hm
  have e5 : vM n T M f 0 11 = M.1 120 f := vM_0 (by omega) (by omega)
  have plain : ∀ M2 : zM, FrS M M2 → ∃ M', gX10_dares_J42 (nI f) (nI m) more M2 = some (b2i (!decide (vM n T M f 2 m + vM n T M f 3 m + more < pM n T L M 2 m + vM n T M f 0 11)), M') ∧ FrS M M' := by
    intro M2 h2
    unfold gX10_dares_J42
    rw [nI_6, zg_true (zok_nI (show 6 * f + m < 138 by omega) (by omega)), zg_true (zok_nI (show 6 * f + m < 138 by omega) (by omega)), zg_true (zok_nI (show m < 12 by omega) (by omega)), zg_true (zok_nI hf (by omega)), nI_cl (show m < 2 ^ 31 by omega), nI_cl (show 6 * f + m < 2 ^ 31 by omega), nI_cl (show f < 2 ^ 31 by omega), h2.1 _ _ (by omega), h2.1 _ _ (by omega), h2.1 _ _ (by omega), h2.1 _ _ (by omega), e1, e3, e4, e5]
    by_cases hc : M.1 123 (6 * f + m) + M.1 124 (6 * f + m) + more < M.1 102 m + M.1 120 f
    · rw [if_pos hc]; exact ⟨M2, by simp [hc, b2i], h2⟩
    · rw [if_neg hc]; exact ⟨M2, by simp [hc, b2i], h2⟩
  unfold gX10_dares sDares
  rw [zcV_some c1, zcI_some l1]
  cases hs : (lawM M 0).isSome with
  | false =>
    have : sLaw (lawM M) 0 (sFacts (pM n T L M) (vM n T M f) m (some t) more) = none := by
      unfold sLaw
      cases hl : lawM M 0 with
      | none => rfl
      | some c => rw [hl] at hs; cases hs
    rw [this, if_pos (show (if false = true then (1 : Int32) else 0) = 0 by decide)]
    exact plain M1 fr1
  | true =>
    obtain ⟨b, M2, g1, g2, g3⟩ := l2 hs
    rw [if_neg (show ¬ (if true = true then (1 : Int32) else 0) = 0 by decide), zcIM_some g1]
    cases hv : sLaw (lawM M) 0 (sFacts (pM n T L M) (vM n T M f) m (some t) more) with
    | none =>
      rw [hv] at g3
      have g3 : b = 0 := g3
      rw [if_pos g3]
      exact plain M2 (fr1.tr g2)
    | some v =>
      rw [hv] at g3
      have g3 : b = 1 ∧ M2.2.1 117 0 = v := g3
      rw [if_neg (by rw [g3.1]; decide), cl0, g3.2]
      simp only [lg_cmp_eq]
      by_cases h0 : v = 0
      · rw [if_pos h0]; exact ⟨M2, by simp [h0, b2i], fr1.tr g2⟩
      · rw [if_neg h0]; exact ⟨M2, by simp [h0, b2i], fr1.tr g2⟩
def wClamp (lo hi : Int64) (v : Int64) : Int32 := (if (if v < hi then v else hi) < lo then lo else (if v < hi then v else hi) : Int64).toInt32
theorem r_within {M M1 : zM} {n T L j : Nat} {lo hi plain : Int32} {F : Nat → Int64} (hM : MC M n T L) (hj : j < 3) (h1 : M1.1 = M.1) (hF : ∀ i, i < 7 → M1.2.1 116 i = F i) (hB : ∀ i, eB (F i)) :
    ∃ M', gX10_within (nI j) lo hi plain M1 = some ((match sLaw (lawM M) j F with
      | some v => wClamp lo.toInt64 hi.toInt64 v
      | none => plain), M') ∧ FrS M1 M' := by
  obtain ⟨l1, l2⟩ := r_law hM hj h1 hF hB
  unfold gX10_within
  rw [zcI_some l1]
  cases hs : (lawM M j).isSome with
  | false =>
    have : sLaw (lawM M) j F = none := by
      unfold sLaw
      cases hl : lawM M j with
      | none => rfl
      | some c => rw [hl] at hs; cases hs
    rw [this, if_pos (show (if false = true then (1 : Int32) else 0) = 0 by decide)]
    exact ⟨M1, rfl, FrS.rf⟩
  | true =>
    obtain ⟨b, M2, g1, g2, g3⟩ := l2 hs
    rw [if_neg (show ¬ (if true = true then (1 : Int32) else 0) = 0 by decide), zcIM_some g1]
    cases hv : sLaw (lawM M) j F with
    | none =>
      rw [hv] at g3
      have g3 : b = 0 := g3
      rw [if_pos g3]
      exact ⟨M2, rfl, g2⟩
    | some v =>
      rw [hv] at g3
      have g3 : b = 1 ∧ M2.2.1 117 0 = v := g3
      rw [if_neg (by rw [g3.1]; decide), cl0, g3.2]
      exact ⟨M2, rfl, g2⟩
/-- odds beyond 0 .. 100 are as those -/
theorem come_clamp {v : Int64} {wy num : Int32} (hv : eB v) : ∃ x : Nat, x ≤ 100 ∧ wClamp (0 : Int32).toInt64 (100 : Int32).toInt64 v = nI x ∧ sCome v wy num = sCome (nI x).toInt64 wy num := by
  have e0 : (0 : Int32).toInt64 = 0 := by decide
  have e1 : (100 : Int32).toInt64 = 100 := by decide
  have i0 : (0 : Int64).toInt = 0 := by decide
  have i1 : (100 : Int64).toInt = 100 := by decide
  rw [e0, e1]
  unfold eB at hv
  by_cases h1 : v ≤ 0
  · have h1' := h1
    rw [Int64.le_iff_toInt_le, i0] at h1'
    refine ⟨0, by omega, ?_, ?_⟩
    · unfold wClamp
      have a : v < 100 := by rw [Int64.lt_iff_toInt_lt, i1]; omega
      rw [if_pos a]
      by_cases b : v < 0
      · rw [if_pos b]; rfl
      · rw [if_neg b]
        have : v = 0 := Int64.toInt_inj.mp (by rw [Int64.lt_iff_toInt_lt, i0] at b; rw [i0]; omega)
        rw [this]; rfl
    · unfold sCome
      rw [if_pos h1, if_pos (by decide)]
  · have h1' := h1
    rw [Int64.le_iff_toInt_le, i0] at h1'
    by_cases h2 : v < 100
    · have h2' := h2
      rw [Int64.lt_iff_toInt_lt, i1] at h2'
      have hx : (nI v.toInt.toNat).toInt64 = v := by
        apply Int64.toInt_inj.mp
        rw [Int32.toInt_toInt64, nI_toInt (by omega)]
        omega
      refine ⟨v.toInt.toNat, by omega, ?_, by rw [hx]⟩
      unfold wClamp
      rw [if_pos h2, if_neg (by rw [Int64.lt_iff_toInt_lt, i0]; omega)]
      rw [← hx, Int32.toInt32_toInt64, Int32.toInt_toInt64, nI_toInt (by omega)]
      congr 1
    · have h2' := h2
      rw [Int64.lt_iff_toInt_lt, i1] at h2'
      refine ⟨100, by omega, ?_, ?_⟩
      · unfold wClamp
        rw [if_neg h2, if_neg (by decide)]
        rfl
      · unfold sCome
        rw [if_neg h1, if_neg h2, if_neg (by decide), if_neg (by decide)]
theorem nI_ltL {x : Nat} {k : Nat} (hx : x < 2 ^ 31) (hk : k < 2 ^ 31) : (nI x).toInt64 < (nI k).toInt64 ↔ x < k := by
  rw [Int64.lt_iff_toInt_lt, Int32.toInt_toInt64, Int32.toInt_toInt64, nI_toInt hx, nI_toInt hk]
  omega
theorem r_falls {M : zM} {n T f x : Nat} {by' wy : Int32} (hf : f < 23) (hx : x ≤ 100) (hw : wy &&& 1 = 0 ↔ by' = 0) :
    ∃ M', gX10_falls (nI f) (nI x) by' M = some (b2i (sCome (nI x).toInt64 wy (vM n T M f 0 14)).1, M') ∧ FrM f M M' ∧ vM n T M' f = vset (vM n T M f) 0 14 (sCome (nI x).toInt64 wy (vM n T M f 0 14)).2 ∧ M'.1 98 53 = M.1 98 53 := by
  have e14 : vM n T M f 0 14 = M.1 119 f := vM_0 (by omega) (by omega)
  have l50 : (50 : Int64) = (nI 50).toInt64 := by decide
  have l100 : (100 : Int64) = (nI 100).toInt64 := by decide
  have l0 : (0 : Int64) = (nI 0).toInt64 := by decide
  have k50 : (50 : Int32) = nI 50 := by decide
  have k100 : (100 : Int32) = nI 100 := by decide
  have c0 : (nI x).toInt64 ≤ 0 ↔ x = 0 := by
    rw [l0, Int64.le_iff_toInt_le, Int32.toInt_toInt64, Int32.toInt_toInt64, nI_toInt (by omega), nI_toInt (by omega)]; omega
  have c100 : (nI x).toInt64 < 100 ↔ x < 100 := by rw [l100, nI_ltL (by omega) (by omega)]
  have c50 : (nI x).toInt64 < 50 ↔ x < 50 := by rw [l50, nI_ltL (by omega) (by omega)]
  have j14 : ∀ b : Bool, (b = !decide (x < 50)) → gX10_falls_J14 (nI x) M = some (b2i b, M) := by
    intro b hb
    unfold gX10_falls_J14
    rw [k50, hb]
    by_cases h : x < 50
    · rw [if_pos (nI_lt h (by omega))]; simp [h, b2i]
    · rw [if_neg (nI_nlt (by omega) (by omega))]; simp [h, b2i]
  unfold gX10_falls
  by_cases hb : by' = 0
  · rw [if_pos hb]
    have hw0 := hw.mpr hb
    refine ⟨M, ?_, FrM.rf, ?_, rfl⟩
    · apply j14
      unfold sCome
      by_cases h1 : x = 0
      · rw [if_pos (c0.mpr h1)]; simp [h1]
      · rw [if_neg (fun z => h1 (c0.mp z))]
        by_cases h2 : x < 100
        · rw [if_pos (c100.mpr h2), if_pos hw0]
          show (!decide ((nI x).toInt64 < 50)) = _
          rw [decide_eq_decide.mpr c50]
        · rw [if_neg (fun z => h2 (c100.mp z))]
          simp; omega
    · have : (sCome (nI x).toInt64 wy (vM n T M f 0 14)).2 = vM n T M f 0 14 := by
        unfold sCome
        repeat' split
        all_goals first | rfl | (exfalso; contradiction)
      rw [this]
      exact (vset_same rfl).symm
  · rw [if_neg hb]
    have hw1 : ¬ wy &&& 1 = 0 := fun z => hb (hw.mp z)
    by_cases h1 : x = 0
    · rw [if_pos (by rw [h1]; exact nI_0)]
      have : sCome (nI x).toInt64 wy (vM n T M f 0 14) = (false, vM n T M f 0 14) := by unfold sCome; rw [if_pos (c0.mpr h1)]
      rw [this]
      exact ⟨M, j14 false (by simp [h1]), FrM.rf, (vset_same rfl).symm, rfl⟩
    · rw [if_neg (nI_ne0 (by omega) (by omega)), k100]
      by_cases h2 : x = 100
      · rw [if_pos (by rw [h2])]
        have : sCome (nI x).toInt64 wy (vM n T M f 0 14) = (true, vM n T M f 0 14) := by
          unfold sCome; rw [if_neg (fun z => h1 (c0.mp z)), if_neg (fun z => by have := c100.mp z; omega)]
        rw [this]
        exact ⟨M, j14 true (by simp; omega), FrM.rf, (vset_same rfl).symm, rfl⟩
      · rw [if_neg (by rw [nI_eq (by omega) (by omega)]; exact h2), ← k100, zg_true (zok_nI hf (by omega)), zg_true (zok_nI hf (by omega)), zlet_eq, zg_true (zok_nI hf (by omega)), nI_cl (by omega), zI_at]
        unfold sCome
        rw [if_neg (fun z => h1 (c0.mp z)), if_pos (c100.mpr (by omega)), if_neg hw1, e14]
        have hv := vM_put (M := M) (f := f) (x := (((M.1 119 f) * 1103515245) + 12345) &&& 2147483647) (v14 (n := n) (T := T)) (by decide)
        have hle : ∀ r : Int32, nI x ≤ r ↔ (nI x).toInt64 ≤ r.toInt64 := fun r => by
          rw [Int32.le_iff_toInt_le, Int64.le_iff_toInt_le, Int32.toInt_toInt64, Int32.toInt_toInt64]
        have hmf : MF f 119 f := Or.inr (Or.inl ⟨by omega, by omega, rfl⟩)
        by_cases h4 : nI x ≤ ((((M.1 119 f * 1103515245) + 12345) &&& 2147483647) >>> ((16 : Int32) &&& 31)) - ((((M.1 119 f * 1103515245) + 12345) &&& 2147483647) >>> ((16 : Int32) &&& 31)) / 100 * 100
        · rw [if_pos h4]
          exact ⟨_, by rw [decide_eq_true ((hle _).mp h4)]; rfl, FrM.put hmf, hv, zI_of (by omega)⟩
        · rw [if_neg h4]
          exact ⟨_, by rw [decide_eq_false (fun z => h4 ((hle _).mpr z))]; rfl, FrM.put hmf, hv, zI_of (by omega)⟩
