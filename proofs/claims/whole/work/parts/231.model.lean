theorem gC_nI {x : Int32} {t : Nat} (ht : t < 2 ^ 31) : (gC x == nI t) = (x == nI t) := by
  unfold gC
  have h1 : ¬ (-1 : Int32) = nI t := by
    intro e
    have h := congrArg Int32.toInt e
    rw [nI_toInt ht] at h
    have : (-1 : Int32).toInt = -1 := by decide
    omega
  have h2 : ¬ (-2 : Int32) = nI t := by
    intro e
    have h := congrArg Int32.toInt e
    rw [nI_toInt ht] at h
    have : (-2 : Int32).toInt = -2 := by decide
    omega
  by_cases h : x = -1
  · rw [if_pos h, h, beq_eq_false_iff_ne.mpr h2, beq_eq_false_iff_ne.mpr h1]
  · rw [if_neg h]
    by_cases hh : x = -2
    · rw [if_pos hh, hh, beq_eq_false_iff_ne.mpr h2, beq_eq_false_iff_ne.mpr h1]
    · rw [if_neg hh]
theorem vM_5 {n T : Nat} {M : zM} {f k : Nat} (hk : k < n) : vM n T M f 5 k = gC (M.1 126 (6 * f + k)) := by
  rw [vM_at (vd (by omega) (by omega) hk)]; rfl
theorem vM_m {n T : Nat} {M : zM} {f c k : Nat} (h1 : 1 ≤ c) (h2 : c ≤ 6) (h5 : c ≠ 5) (hk : k < n) : vM n T M f c k = M.1 (if c = 1 then 129 else 121 + c) (6 * f + k) := by
  rw [vM_at (vd h1 (by omega) hk)]
  unfold vRd
  rw [if_neg h5, if_neg (by omega), (ma_m h1 (by omega)).1, (ma_m h1 (by omega)).2]
theorem vM_t {n T : Nat} {M : zM} {f c k : Nat} (h1 : 8 ≤ c) (h2 : c ≤ 9) (hk : k < T) : vM n T M f c k = M.1 (122 + c) (8 * f + k) := by
  rw [vM_at (vdT h1 h2 hk)]
  unfold vRd
  rw [if_neg (by omega), if_neg (by omega), (ma_t h1 h2).1, (ma_t h1 h2).2]
theorem vM_0 {n T : Nat} {M : zM} {f k : Nat} (h1 : 10 ≤ k) (h2 : k ≤ 14) : vM n T M f 0 k = M.1 (if k = 10 then 118 else if k = 11 then 120 else if k = 12 then 121 else if k = 13 then 122 else 119) f := by
  have hd : vdim n T 0 k = true := by unfold vdim; simp; omega
  rw [vM_at hd]
  unfold vRd
  rw [if_neg (by omega), if_neg (by omega), (ma_0 h1 h2).1, (ma_0 h1 h2).2]
theorem r_goer {M : zM} {n T L f t : Nat} (hM : MC M n T L) (hf : f < 23) (ht : t < 2 ^ 31) : gX10_goerOf (nI f) (nI t) M = some (oN (sGoer (vM n T M f) n (nI t))) := by
  obtain ⟨hn, hT, hL, hl⟩ := hM
  unfold gX10_goerOf
  rw [zfix_find (fun k => nI k) (fun k => vM n T M f 5 k == nI t) (fun k => some (nI k)) (some (-1)) n nI_0.symm (by unfold zFu; omega) ?_ ?_ ?_]
  · show _ = some (oN (ffst _ n))
    cases ffst (fun k => vM n T M f 5 k == nI t) n <;> rfl
  · intro k hk hp rc
    rw [vM_5 hk, gC_nI ht] at hp
    unfold gX10_goerOf_L2
    rw [cl0, hn.1, if_neg (nI_ge hk (by omega)), nI_6, zg_true (zok_nI (by omega) (by omega)), nI_cl (by omega), if_neg (by simpa using hp), nI_1]
  · intro k hk hp rc
    rw [vM_5 hk, gC_nI ht] at hp
    unfold gX10_goerOf_L2
    rw [cl0, hn.1, if_neg (nI_ge hk (by omega)), nI_6, zg_true (zok_nI (by omega) (by omega)), nI_cl (by omega), if_pos (by simpa using hp)]
  · intro rc
    unfold gX10_goerOf_L2
    rw [cl0, hn.1, if_pos (nI_le (Nat.le_refl _) (by omega))]
theorem oN_m1 {o : Option Nat} (h : ∀ t, o = some t → t < 2 ^ 31) : oN o = -1 ↔ o.isNone = true := by
  cases o with
  | none => simp [oN]
  | some t =>
    simp only [oN, Option.isNone_some, Bool.false_eq_true, iff_false]
    intro e
    have h2 := congrArg Int32.toInt e
    rw [nI_toInt (h t rfl)] at h2
    have : (-1 : Int32).toInt = -1 := by decide
    omega
theorem r_free {M : zM} {n T L f : Nat} (hM : MC M n T L) (hf : f < 23) : gX10_firstLeft (nI f) M = some (oN (sFree (vM n T M f) n T)) := by
  have hM0 := hM
  obtain ⟨hn, hT, hL, hl⟩ := hM
  unfold gX10_firstLeft
  rw [zfix_find (fun k => nI k) (fun t => vM n T M f 8 t == 0 && (sGoer (vM n T M f) n (nI t)).isNone) (fun k => some (nI k)) (some (-1)) T nI_0.symm (by unfold zFu; omega) ?_ ?_ ?_]
  · show _ = some (oN (ffst _ T))
    cases ffst (fun t => vM n T M f 8 t == 0 && (sGoer (vM n T M f) n (nI t)).isNone) T <;> rfl
  · intro k hk hp rc
    unfold gX10_firstLeft_L2
    rw [cl1, hT.1, if_neg (nI_ge hk (by omega)), nI_8, zg_true (zok_nI (by omega) (by omega)), nI_cl (by omega), ← vM_t (n := n) (M := M) (c := 8) (by omega) (by omega) hk]
    by_cases hz : vM n T M f 8 k = 0
    · rw [if_pos hz, zcI_some (r_goer hM0 hf (by omega)), if_neg, nI_1]
      rw [oN_m1 (fun t ht => by have := sGoer_lt ht; omega)]
      rw [hz] at hp
      simp only [beq_self_eq_true, Bool.true_and] at hp
      rw [hp]; decide
    · rw [if_neg hz, nI_1]
  · intro k hk hp rc
    simp only [Bool.and_eq_true, beq_iff_eq] at hp
    unfold gX10_firstLeft_L2
    rw [cl1, hT.1, if_neg (nI_ge hk (by omega)), nI_8, zg_true (zok_nI (by omega) (by omega)), nI_cl (by omega), ← vM_t (n := n) (M := M) (c := 8) (by omega) (by omega) hk, if_pos hp.1, zcI_some (r_goer hM0 hf (by omega)), if_pos]
    rw [oN_m1 (fun t ht => by have := sGoer_lt ht; omega)]
    exact hp.2
  · intro rc
    unfold gX10_firstLeft_L2
    rw [cl1, hT.1, if_pos (nI_le (Nat.le_refl _) (by omega))]
/-- only the laws' scratch -/
def FrS (M M' : zM) : Prop := (∀ a i, ¬ (a = 98 ∧ i = 34) → M'.1 a i = M.1 a i) ∧ M'.2.2 = M.2.2 ∧ ∀ a, a ≠ 116 → a ≠ 117 → M'.2.1 a = M.2.1 a
theorem FrS.M {f : Nat} {M M' : zM} (h : FrS M M') : FrM f M M' := ⟨fun a i q => h.1 a i (fun z => q (Or.inl ⟨z.1, Or.inl z.2⟩)), h.2.1, h.2.2⟩
theorem r_calls {M : zM} {n T L f m : Nat} {o : Option Nat} {more : Int32} (hM : MC M n T L) (hf : f < 23) (hm : m < n) (ho : ∀ t, o = some t → t < T) :
    ∃ M', gX10_calls (nI f) (nI m) (oN o) more M = some M' ∧ M'.1 = M.1 ∧ M'.2.2 = M.2.2 ∧ (∀ a, a ≠ 116 → M'.2.1 a = M.2.1 a) ∧ ∀ i, i < 7 → M'.2.1 116 i = sFacts (pM n T L M) (vM n T M f) m o more i := by
  obtain ⟨hn, hT, hL, hl⟩ := hM
  have e1 : pM n T L M 2 m = M.1 102 m := pM_at (pdN (by omega) (by omega) hm)
  have e2 : pM n T L M 4 m = M.1 104 m := pM_at (pdN (by omega) (by omega) hm)
  have e3 : vM n T M f 2 m = M.1 123 (6 * f + m) := vM_m (by omega) (by omega) (by omega) hm
  have e4 : vM n T M f 3 m = M.1 124 (6 * f + m) := vM_m (by omega) (by omega) (by omega) hm
  have e5 : vM n T M f 0 11 = M.1 120 f := vM_0 (by omega) (by omega)
  have e6 : vM n T M f 0 10 = M.1 118 f := vM_0 (by omega) (by omega)
  have fin : ∀ (y : Int64) (M0 : zM), M0.1 = M.1 → M0.2.2 = M.2.2 → (∀ a, a ≠ 116 → M0.2.1 a = M.2.1 a) → (∀ i, i < 5 → M0.2.1 116 i = sFacts (pM n T L M) (vM n T M f) m o more i) → y = sFacts (pM n T L M) (vM n T M f) m o more 5 → ∃ M', gX10_calls_J99 (nI f) y M0 = some M' ∧ M'.1 = M.1 ∧ M'.2.2 = M.2.2 ∧ (∀ a, a ≠ 116 → M'.2.1 a = M.2.1 a) ∧ ∀ i, i < 7 → M'.2.1 116 i = sFacts (pM n T L M) (vM n T M f) m o more i := by
    intro y M0 q1 q2 q3 q4 hy
    unfold gX10_calls_J99
    rw [zlet_eq, zg_true (zok_nI hf (by omega)), zlet_eq, cl5, cl6, zJ_1, q1, nI_cl (by omega)]
    refine ⟨_, rfl, q1, q2, fun a ha => ?_, fun i hi => ?_⟩
    · rw [zJ_row_ne ha, zJ_row_ne ha, q3 a ha]
    · by_cases i6 : i = 6
      · subst i6; rw [zJ_at]; show _ = (vM n T M f 0 10).toInt64; rw [e6]
      · rw [zJ_of (by omega)]
        by_cases i5 : i = 5
        · subst i5; rw [zJ_at, hy]
        · rw [zJ_of (by omega)]; exact q4 i (by omega)
  unfold gX10_calls
  rw [nI_6, zg_true (zok_nI (show m < 12 by omega) (by omega)), zlet_eq, zg_true (zok_nI (show 6 * f + m < 138 by omega) (by omega)), zlet_eq, zg_true (zok_nI (show m < 12 by omega) (by omega)), zlet_eq, zg_true (zok_nI (show 6 * f + m < 138 by omega) (by omega)), zlet_eq, zg_true (zok_nI hf (by omega)), zlet_eq, nI_cl (show m < 2 ^ 31 by omega), nI_cl (show 6 * f + m < 2 ^ 31 by omega), nI_cl (show f < 2 ^ 31 by omega)]
  simp only [zJ_1, cl0, cl1, cl2, cl3, cl4]
  have hfive : ∀ i, i < 5 → (zJ (zJ (zJ (zJ (zJ M 116 0 (M.1 102 m).toInt64) 116 1 (M.1 123 (6 * f + m)).toInt64) 116 2 (M.1 104 m).toInt64) 116 3 (M.1 124 (6 * f + m) + more).toInt64) 116 4 (M.1 120 f).toInt64).2.1 116 i = sFacts (pM n T L M) (vM n T M f) m o more i := by
    intro i hi
    match i, hi with
    | 0, _ => rw [zJ_of (by omega), zJ_of (by omega), zJ_of (by omega), zJ_of (by omega), zJ_at]; show _ = (pM n T L M 2 m).toInt64; rw [e1]
    | 1, _ => rw [zJ_of (by omega), zJ_of (by omega), zJ_of (by omega), zJ_at]; show _ = (vM n T M f 2 m).toInt64; rw [e3]
    | 2, _ => rw [zJ_of (by omega), zJ_of (by omega), zJ_at]; show _ = (pM n T L M 4 m).toInt64; rw [e2]
    | 3, _ => rw [zJ_of (by omega), zJ_at]; show _ = (vM n T M f 3 m + more).toInt64; rw [e4]
    | 4, _ => rw [zJ_at]; show _ = (vM n T M f 0 11).toInt64; rw [e5]
  have hrow : ∀ a, a ≠ 116 → (zJ (zJ (zJ (zJ (zJ M 116 0 (M.1 102 m).toInt64) 116 1 (M.1 123 (6 * f + m)).toInt64) 116 2 (M.1 104 m).toInt64) 116 3 (M.1 124 (6 * f + m) + more).toInt64) 116 4 (M.1 120 f).toInt64).2.1 a = M.2.1 a := fun a ha => by
    rw [zJ_row_ne ha, zJ_row_ne ha, zJ_row_ne ha, zJ_row_ne ha, zJ_row_ne ha]
  cases o with
  | none =>
    rw [if_pos (show oN none = -1 from rfl)]
    exact fin 0 _ rfl rfl hrow hfive rfl
  | some t =>
    have ht := ho t rfl
    rw [if_neg (by rw [oN_m1 (fun u hu => by cases hu; omega)]; simp)]
    show ∃ M', zg (zok (nI t) 16) (gX10_calls_J99 (nI f) (M.1 107 (nI t).toNatClampNeg).toInt64 _) = _ ∧ _
    rw [zg_true (zok_nI (by omega) (by omega)), nI_cl (by omega)]
    exact fin _ _ rfl rfl hrow hfive (by show _ = (pM n T L M 7 t).toInt64; rw [pM_at (pdT (by omega) (by omega) ht)]; rfl)
theorem evS_ht {F : Nat → Int64} : ∀ (c : List (Int32 × Int32)) (st s' : List Int64), evS F c st = some s' → s'.length = htS c st.length := by
  intro c
  induction c with
  | nil => intro st s' h; cases h; rfl
  | cons q c ih =>
    intro st s' h
    unfold evS at h
    unfold htS
    by_cases h28 : q.1 = 28
    · rw [if_pos h28] at h ⊢
      match st, h with
      | [], h => cases h
      | y :: r, h => exact ih ((if y = 0 then 1 else 0) :: r) s' h
    · rw [if_neg h28] at h ⊢
      by_cases h26 : q.1 < 26
      · rw [if_pos h26] at h ⊢
        exact ih _ _ h
      · rw [if_neg h26] at h ⊢
        match st, h with
        | [], h => cases h
        | [y], h => cases h
        | y :: x :: r, h =>
          dsimp only at h
          cases hc : cmb q.1 x y with
          | none => rw [hc] at h; cases h
          | some v =>
            rw [hc] at h
            exact ih (v :: r) s' h
/-- whether a law comes out, and what it comes to -/
theorem r_law {M M1 : zM} {n T L j : Nat} {F : Nat → Int64} (hM : MC M n T L) (hj : j < 3) (h1 : M1.1 = M.1) (hF : ∀ i, i < 7 → M1.2.1 116 i = F i) (hB : ∀ i, eB (F i)) :
    gX10_hasLaw (nI j) M1 = some (if (lawM M j).isSome then 1 else 0) ∧ ((lawM M j).isSome = true → ∃ b M2, gX10_comesOut (nI j) M1 = some (b, M2) ∧ FrS M1 M2 ∧ (match sLaw (lawM M) j F with
      | some v => b = 1 ∧ M2.2.1 117 0 = v
      | none => b = 0)) := by
  obtain ⟨a, e, ha, he, hae, he64, hok, hwf⟩ := hM.2.2.2 j hj
  constructor
  · unfold gX10_hasLaw lawM
    rw [zg_true (zok_nI (by omega) (by omega)), zg_true (zok_nI (by omega) (by omega)), nI_cl (by omega), h1]
    by_cases h : M.1 113 j ≤ M.1 112 j
    · rw [if_pos h, if_pos h]; rfl
    · rw [if_neg h, if_neg h]; rfl
  · intro hs
    have hlt : a < e := by
      unfold lawM at hs
      by_cases h : M.1 113 j ≤ M.1 112 j
      · rw [if_pos h] at hs; cases hs
      · rw [ha, he, nI_leI (by omega) (by omega)] at h; omega
    obtain ⟨w1, w2⟩ := hwf hlt
    unfold gX10_comesOut
    rw [zlet_eq, zg_true (zok_nI (by omega) (by omega)), zlet_eq, nI_cl (by omega), zI_of (by omega), h1, ha]
    have hcm : ((List.range' a (e - a)).map (fun k => (M.1 114 k, M.1 115 k))).map (fun q => cvK q.1 q.2) = (List.range' a (e - a)).map (fun k => cvK (M.1 114 k) (M.1 115 k)) := by rw [List.map_map]; rfl
    obtain ⟨b, M2, g1, g2, g3, g4, g5⟩ := r_loop (j := j) (e := e) (by omega) (by omega) (M.1 114) (M.1 115) (M1.2.1 116) (fun i hi => by rw [hF i hi]; exact hB i) ((List.range' a (e - a)).map (fun k => (M.1 114 k, M.1 115 k))) a zFu [] (zI M1 98 34 0) (by funext i; rw [zI_of (by omega), h1]) (by funext i; rw [zI_of (by omega), h1]) (by rw [zI_of (by omega), h1]; exact he) rfl (by rw [zI_at]; exact nI_0.symm) (by simp; omega) (by simp [zFu]; omega) (by simp; omega) (by
      intro i hi
      simp only [List.length_map, List.length_range'] at hi
      rw [List.getElem?_map, List.getElem?_range' hi]
      simp) (by
      intro q hq
      obtain ⟨k, hk, rfl⟩ := List.mem_map.mp hq
      rw [List.mem_range'_1] at hk
      exact hok k hk.1 (by omega)) (by rw [hcm]; exact w1) (fun i hi => by simp at hi) (fun v hv => by cases hv)
    refine ⟨b, M2, g1, ⟨fun x i hx => by rw [g2 x i hx, zI_of hx], g3, fun x q1 q2 => g4 x q2⟩, ?_⟩
    rw [hcm, evS_congr hF] at g5
    have hLM : lawM M j = some ((List.range' a (e - a)).map (fun k => cvK (M.1 114 k) (M.1 115 k))) := by
      unfold lawM
      rw [ha, he, if_neg (nI_ge hlt (by omega)), nI_cl (by omega), nI_cl (by omega)]
    have hsl : sLaw (lawM M) j F = evL F ((List.range' a (e - a)).map (fun k => cvK (M.1 114 k) (M.1 115 k))) := by
      unfold sLaw; rw [hLM]; rfl
    rw [hsl]
    unfold evL
    cases hev : evS F ((List.range' a (e - a)).map (fun k => cvK (M.1 114 k) (M.1 115 k))) [] with
    | none => rw [hev] at g5; exact g5
    | some st =>
      rw [hev] at g5
      have hlen := evS_ht _ _ _ hev
      rw [show ([] : List Int64).length = 0 from rfl, w2] at hlen
      match st, hlen, g5 with
      | [v], _, g5 => exact ⟨g5.1, skR_top g5.2.1⟩
