def vHd (M : zM) (f n : Nat) : Prop := ∀ m, m < n → M.1 128 (6 * f + m) = 0 ∨ M.1 128 (6 * f + m) = 1
theorem vHd.fr {f n : Nat} {M M' : zM} (h : vHd M f n) (hf : FrM f M M') : vHd M' f n := fun m hm => by
  rw [hf.1 128 (6 * f + m) (by unfold MF; omega)]; exact h m hm
theorem r_enter {M : zM} {n T L f m : Nat} (hM : MC M n T L) (hf : f < 23) (hm : m < n) (hh : vHd M f n) :
    ∃ M', gX10_entersIf (nI f) (nI m) M = some M' ∧ FrM f M M' ∧ vM n T M' f = (sSend (pM n T L M) (vM n T M f) (lawM M) n T m (M.1 98 53)).1 ∧ M'.1 98 53 = (sSend (pM n T L M) (vM n T M f) (lawM M) n T m (M.1 98 53)).2 := by
  have hn := hM.1
  have hTT := hM.2.1
  have hm6 : m < 6 := by omega
  have e4 : M.1 125 (6 * f + m) = vM n T M f 4 m := (vM_m (c := 4) (by omega) (by omega) (by omega) hm).symm
  have e7 : vM n T M f 7 m = if M.1 98 51 = 2 ∧ nI m = M.1 98 52 then 1 else M.1 128 (6 * f + m) := by
    rw [vM_at (vd (by omega) (by omega) hm)]
    unfold vRd
    rw [if_neg (by omega)]
    by_cases h : M.1 98 51 = 2 ∧ nI m = M.1 98 52
    · rw [if_pos ⟨rfl, h⟩, if_pos h]
    · rw [if_neg (fun z => h z.2), if_neg h]; rfl
  unfold gX10_entersIf sSend
  rw [zcI_some (r_free hM hf), nI_6, zg_true (zok_nI (show 6 * f + m < 138 by omega) (by omega)), nI_cl (by omega), e4]
  by_cases h4 : vM n T M f 4 m = 0
  · rw [if_pos h4, if_pos h4, zg_true (zok_nI (show 6 * f + m < 138 by omega) (by omega))]
    -- the daring
    have dare : vM n T M f 7 m = 0 → ∃ M', gX10_entersIf_J49 (nI f) (nI m) (nI (6 * f + m)) (oN (sFree (vM n T M f) n T)) M = some M' ∧ FrM f M M' ∧ vM n T M' f = (if vM n T M f 7 m = 0 then (match sFree (vM n T M f) n T with
        | none => (vM n T M f, M.1 98 53)
        | some t => if sDares (pM n T L M) (vM n T M f) (lawM M) m t 0 = true then (vset (vset (vset (vM n T M f) 4 m 1) 5 m (nI t)) 6 m 0, M.1 98 53 ||| ((1 : Int32) <<< (nI m &&& 31))) else (vM n T M f, M.1 98 53)) else (vM n T M f, M.1 98 53)).1 ∧ M'.1 98 53 = (if vM n T M f 7 m = 0 then (match sFree (vM n T M f) n T with
        | none => (vM n T M f, M.1 98 53)
        | some t => if sDares (pM n T L M) (vM n T M f) (lawM M) m t 0 = true then (vset (vset (vset (vM n T M f) 4 m 1) 5 m (nI t)) 6 m 0, M.1 98 53 ||| ((1 : Int32) <<< (nI m &&& 31))) else (vM n T M f, M.1 98 53)) else (vM n T M f, M.1 98 53)).2 := by
      intro h7
      rw [if_pos h7]
      unfold gX10_entersIf_J49
      cases hfr : sFree (vM n T M f) n T with
      | none =>
        rw [if_pos (show oN none = -1 from rfl)]
        exact ⟨M, rfl, FrM.rf, rfl, rfl⟩
      | some t =>
        have ht := sFree_lt hfr
        rw [if_neg (by rw [oN_m1 (fun u hu => by cases hu; omega)]; simp)]
        obtain ⟨M1, d1, d2⟩ := r_dares (more := 0) hM hf hm ht
        show ∃ M', zcIM (gX10_dares (nI f) (nI m) (nI t) 0 M) _ = _ ∧ _
        rw [zcIM_some d1]
        by_cases hd : sDares (pM n T L M) (vM n T M f) (lawM M) m t 0 = true
        · rw [if_neg (by rw [hd]; decide)]
          simp only [hd, if_true]
          rw [zg_true (zok_nI (show 6 * f + m < 138 by omega) (by omega)), zlet_eq, zg_true (zok_nI (show 6 * f + m < 138 by omega) (by omega)), zlet_eq, zg_true (zok_nI (show 6 * f + m < 138 by omega) (by omega)), zlet_eq, zlet_eq, nI_cl (show 6 * f + m < 2 ^ 31 by omega), show oN (some t) = nI t from rfl]
          have e53 : (zI (zI (zI M1 125 (6 * f + m) 1) 126 (6 * f + m) (nI t)) 127 (6 * f + m) 0).1 98 53 = M.1 98 53 := by rw [zI_of (by omega), zI_of (by omega), zI_of (by omega), d2.1 98 53 (by omega)]
          rw [e53]
          refine ⟨_, rfl, d2.M.tr ((FrM.put (mf_m (by omega) (by omega) hm6)).tr ((FrM.put (mf_m (by omega) (by omega) hm6)).tr ((FrM.put (mf_m (by omega) (by omega) hm6)).tr (FrM.put (Or.inl ⟨rfl, Or.inr rfl⟩))))), ?_, zI_at⟩
          rw [vM_98 (by omega) (by omega)]
          have h1 := vM_put (M := zI (zI M1 125 (6 * f + m) 1) 126 (6 * f + m) (nI t)) (f := f) (x := 0) (vd (n := n) (T := T) (c := 6) (by omega) (by omega) hm) (by decide)
          have h2 := vM_put (M := zI M1 125 (6 * f + m) 1) (f := f) (x := nI t) (vd (n := n) (T := T) (c := 5) (by omega) (by omega) hm) (by decide)
          have h3 := vM_put (M := M1) (f := f) (x := 1) (vd (n := n) (T := T) (c := 4) (by omega) (by omega) hm) (by decide)
          have hgc : gC (nI t) = nI t := by
            have := gC_nI (x := nI t) (t := t) (by omega)
            simpa using this
          refine h1.trans ?_
          rw [show vM n T (zI (zI M1 125 (6 * f + m) 1) 126 (6 * f + m) (nI t)) f = _ from h2, show vM n T (zI M1 125 (6 * f + m) 1) f = _ from h3, vM_FrS d2]
          show vset (vset (vset (vM n T M f) 4 m 1) 5 m (gC (nI t))) 6 m 0 = _
          rw [hgc]
        · rw [if_pos (by rw [b2i_0]; simpa using hd)]
          simp only [hd]
          exact ⟨M1, rfl, d2.M, vM_FrS d2, by rw [d2.1 98 53 (by omega)]; rfl⟩
    by_cases h1 : M.1 128 (6 * f + m) = 1
    · rw [if_pos h1]
      have h7 : ¬ vM n T M f 7 m = 0 := by
        rw [e7]
        split
        · decide
        · rw [h1]; decide
      rw [if_neg h7]
      exact ⟨M, rfl, FrM.rf, rfl, rfl⟩
    · rw [if_neg h1]
      have h0 : M.1 128 (6 * f + m) = 0 := (hh m hm).resolve_right h1
      by_cases h2 : M.1 98 51 = 2
      · rw [if_pos h2]
        by_cases h3 : nI m = M.1 98 52
        · rw [if_pos h3]
          have h7 : ¬ vM n T M f 7 m = 0 := by rw [e7, if_pos ⟨h2, h3⟩]; decide
          rw [if_neg h7]
          exact ⟨M, rfl, FrM.rf, rfl, rfl⟩
        · rw [if_neg h3]
          exact dare (by rw [e7, if_neg (fun z => h3 z.2)]; exact h0)
      · rw [if_neg h2]
        exact dare (by rw [e7, if_neg (fun z => h2 z.1)]; exact h0)
  · rw [if_neg h4, if_neg h4]
    exact ⟨M, rfl, FrM.rf, rfl, rfl⟩
theorem r_pays {M : zM} {n T L f : Nat} (hM : MC M n T L) (hf : f < 23) (hk : pLk (pM n T L M) n L) :
    ∃ M', gX10_looks (nI f) M = some M' ∧ FrM f M M' ∧ vM n T M' f = sPays (pM n T L M) (vM n T M f) L ∧ M'.1 98 53 = M.1 98 53 := by
  have hn := hM.1
  have hLL := hM.2.2.1
  unfold gX10_looks
  obtain ⟨s', N', ⟨e1, e2, e3, e4⟩, hz⟩ := zfix_inv (B := gX10_looks_L2 (nI f)) (fun k (s : Int32 × zM) => s.1 = nI k ∧ FrM f M s.2 ∧ vM n T s.2 f = sPays (pM n T L M) (vM n T M f) k ∧ s.2.1 98 53 = M.1 98 53) L (by
    intro k hkL s ⟨q1, q2, q3, q4⟩
    obtain ⟨i, Mk⟩ := s
    dsimp only at q1 q2 q3 q4
    subst q1
    have hMk := hM.fr q2
    have eL : Mk.1 100 2 = nI L := hMk.2.2.1.1
    have p9 : Mk.1 109 k = pM n T L M 9 k := by rw [← pM_fr q2]; exact (pM_at (pdL (c := 9) (by omega) (by omega) hkL)).symm
    have p10 : Mk.1 110 k = pM n T L M 10 k := by rw [← pM_fr q2]; exact (pM_at (pdL (c := 10) (by omega) (by omega) hkL)).symm
    have p11 : Mk.1 111 k = pM n T L M 11 k := by rw [← pM_fr q2]; exact (pM_at (pdL (c := 11) (by omega) (by omega) hkL)).symm
    obtain ⟨m, hm, hm9⟩ := hk k hkL
    have hm6 : m < 6 := by omega
    have a10 : Mk.1 118 f = vM n T Mk f 0 10 := (vM_0 (k := 10) (by omega) (by omega)).symm
    have a12 : Mk.1 121 f = vM n T Mk f 0 12 := (vM_0 (k := 12) (by omega) (by omega)).symm
    have a13 : Mk.1 122 f = vM n T Mk f 0 13 := (vM_0 (k := 13) (by omega) (by omega)).symm
    have a3 : Mk.1 124 (6 * f + m) = vM n T Mk f 3 m := (vM_m (c := 3) (by omega) (by omega) (by omega) hm).symm
    have body : ∀ rc : (Int32 × zM) → Option zM, gX10_looks_L2 (nI f) rc (nI k, Mk) = (if pM n T L M 10 k = vM n T Mk f 0 10 then (if pM n T L M 11 k ≤ vM n T Mk f 0 12 then rc (nI (k + 1), zI (zI Mk 121 f (vM n T Mk f 0 12 - pM n T L M 11 k)) 124 (6 * f + m) (vM n T Mk f 3 m + pM n T L M 11 k)) else rc (nI (k + 1), zI Mk 122 f (vM n T Mk f 0 13 + 1))) else rc (nI (k + 1), Mk)) := by
      intro rc
      unfold gX10_looks_L2
      dsimp only
      rw [cl2, eL, if_neg (nI_ge hkL (by omega)), zg_true (zok_nI (show k < 20 by omega) (by omega)), zg_true (zok_nI hf (by omega)), nI_cl (show k < 2 ^ 31 by omega), nI_cl (show f < 2 ^ 31 by omega), p10, a10, zg_true (zok_nI hf (by omega)), zg_true (zok_nI (show k < 20 by omega) (by omega)), p11, a12, zg_true (zok_nI hf (by omega)), zg_true (zok_nI (show k < 20 by omega) (by omega)), zg_true (zok_nI hf (by omega)), zlet_eq, zg_true (zok_nI (show k < 20 by omega) (by omega)), zI_of (show ¬ (109 = 121 ∧ k = f) by omega), p9, hm9, nI_6, zg_true (zok_nI (show 6 * f + m < 138 by omega) (by omega)), zg_true (zok_nI (show k < 20 by omega) (by omega)), zg_true (zok_nI (show 6 * f + m < 138 by omega) (by omega)), zlet_eq, nI_cl (show 6 * f + m < 2 ^ 31 by omega), zI_of (show ¬ (124 = 121 ∧ 6 * f + m = f) by omega), a3, zI_of (show ¬ (111 = 121 ∧ k = f) by omega), p11, zg_true (zok_nI hf (by omega)), zg_true (zok_nI hf (by omega)), zlet_eq, a13, nI_1]
    show ∃ s' : Int32 × zM, (s'.1 = nI (k + 1) ∧ FrM f M s'.2 ∧ vM n T s'.2 f = sPay (pM n T L M) (sPays (pM n T L M) (vM n T M f) k) k ∧ s'.2.1 98 53 = M.1 98 53) ∧ _
    rw [← q3]
    unfold sPay
    rw [hm9, nI_cl (by omega)]
    by_cases c1 : pM n T L M 10 k = vM n T Mk f 0 10
    · by_cases c2 : pM n T L M 11 k ≤ vM n T Mk f 0 12
      · refine ⟨(nI (k + 1), zI (zI Mk 121 f (vM n T Mk f 0 12 - pM n T L M 11 k)) 124 (6 * f + m) (vM n T Mk f 3 m + pM n T L M 11 k)), ⟨rfl, q2.tr ((FrM.put (mf_0 (by omega) (by omega))).tr (FrM.put (mf_m (by omega) (by omega) hm6))), ?_, ?_⟩, fun rc => ?_⟩
        · rw [if_pos c1, if_pos c2]
          dsimp only
          have h1 := vM_put (M := zI Mk 121 f (vM n T Mk f 0 12 - pM n T L M 11 k)) (f := f) (x := vM n T Mk f 3 m + pM n T L M 11 k) (vd (n := n) (T := T) (c := 3) (by omega) (by omega) hm) (by decide)
          have h2 := vM_put (M := Mk) (f := f) (x := vM n T Mk f 0 12 - pM n T L M 11 k) (v12 (n := n) (T := T)) (by decide)
          refine h1.trans ?_
          rw [show vM n T (zI Mk 121 f (vM n T Mk f 0 12 - pM n T L M 11 k)) f = _ from h2]
          rfl
        · dsimp only
          rw [zI_of (by omega), zI_of (by omega), q4]
        · rw [body, if_pos c1, if_pos c2]
      · refine ⟨(nI (k + 1), zI Mk 122 f (vM n T Mk f 0 13 + 1)), ⟨rfl, q2.tr (FrM.put (mf_0 (by omega) (by omega))), ?_, ?_⟩, fun rc => ?_⟩
        · rw [if_pos c1, if_neg c2]
          exact vM_put (M := Mk) (f := f) (x := vM n T Mk f 0 13 + 1) (v13 (n := n) (T := T)) (by decide)
        · dsimp only
          rw [zI_of (by omega), q4]
        · rw [body, if_pos c1, if_neg c2]
    · refine ⟨(nI (k + 1), Mk), ⟨rfl, q2, ?_, q4⟩, fun rc => ?_⟩
      · rw [if_neg c1]
      · rw [body, if_neg c1]) L 0 zFu (0, M) (by omega) (by unfold zFu; omega) ⟨nI_0.symm, FrM.rf, rfl, rfl⟩
  obtain ⟨i, M'⟩ := s'
  dsimp only at e1 e2 e3 e4
  subst e1
  refine ⟨M', ?_, e2, e3, e4⟩
  rw [hz]
  unfold gX10_looks_L2
  dsimp only
  rw [cl2, (hM.fr e2).2.2.1.1, if_pos (nI_le (Nat.le_refl _) (by omega))]
