/-- what works leaves: n things below the new top -/
def rPost (M : zM) (n : Nat) (o : Option Int64) (b : Int32) (M' : zM) : Prop :=
  M'.1 = (zI M 98 34 (nI (n + 1))).1 ∧ M'.2.2 = M.2.2 ∧ (∀ a, a ≠ 117 → M'.2.1 a = M.2.1 a) ∧ (∀ i, i < n → M'.2.1 117 i = M.2.1 117 i) ∧ (match o with
    | some v => b = 1 ∧ M'.2.1 117 n = v
    | none => b = 0)
theorem r_arith {M : zM} {n : Nat} (e : Int64) (h64 : n < 64) : ∃ b M', gX10_works_J407 e (zI M 98 34 (nI (n + 1))) = some (b, M') ∧ rPost M n (eRng e) b M' := by
  refine ⟨_, _, r_put (n := n) (by exact zI_at) h64, rfl, rfl, fun a ha => by rw [zJ_row_ne ha]; rfl, fun i hi => by rw [zJ_of (by omega)]; rfl, ?_⟩
  cases h : eRng e with
  | none => rfl
  | some v =>
    refine ⟨rfl, ?_⟩
    rw [zJ_at]
    unfold eRng at h
    repeat' (split at h)
    all_goals first | (cases h; rfl) | cases h
theorem r_logic {M : zM} {n : Nat} (c : Int32) {o : Option Int64} (h64 : n < 64) (ho : o = some (if c = 0 then 0 else 1)) : ∃ b M', zcL (gX10_is c (zI M 98 34 (nI (n + 1)))) (fun v => gX10_works_J407 v (zI M 98 34 (nI (n + 1)))) = some (b, M') ∧ rPost M n o b M' := by
  refine ⟨_, _, r_bool (n := n) (by exact zI_at) h64, rfl, rfl, fun a ha => by rw [zJ_row_ne ha]; rfl, fun i hi => by rw [zJ_of (by omega)]; rfl, ?_⟩
  rw [ho]
  exact ⟨rfl, zJ_at⟩
theorem r_none {M : zM} {n : Nat} : ∃ b M', some ((0 : Int32), zI M 98 34 (nI (n + 1))) = some (b, M') ∧ rPost M n none b M' := ⟨0, _, rfl, rfl, rfl, fun _ _ => rfl, fun _ _ => rfl, rfl⟩
theorem nI_sub2 (n : Nat) : nI (n + 1 + 1) - 2 = nI n := by
  rw [← nI_1, ← nI_1, Int32.sub_eq_add_neg, Int32.add_assoc, Int32.add_assoc]
  have h : (1 : Int32) + (1 + -2) = 0 := by decide
  rw [h, Int32.add_zero]
set_option maxHeartbeats 2000000 in
theorem r_works {M : zM} {op : Int32} {n : Nat} {x y : Int64} (hop : ¬ op = 260) (hn : M.1 98 34 = nI (n + 1 + 1)) (h64 : n + 1 < 64) (hy : M.2.1 117 (n + 1) = y) (hx : M.2.1 117 n = x) (bx : eB x) (bY : eB y) :
    ∃ b M', gX10_works op M = some (b, M') ∧ rPost M n (cmb (cvS op) x y) b M' := by
  have h63 : n < 64 := by omega
  unfold gX10_works
  rw [hn, nI_pred, nI_sub2, zg_true (zok_nI h64 (by omega)), nI_cl (by omega), zlet_eq, if_neg hop, zg_true (zok_nI h63 (by omega)), nI_cl (by omega), zlet_eq, zlet_eq, hx, hy]
  unfold gX10_works_J212 gX10_works_J250 gX10_works_J290 gX10_works_J270 gX10_works_J310 gX10_works_J350 gX10_works_J330 gX10_works_J375 gX10_works_J376 gX10_works_J397 gX10_works_J402
  simp only [lg_cmp_eq, lg_cmp_ge, lg_cmp_gt, lg_cmp_lt, lg_cmp_le]
  by_cases h1 : op = 42
  · rw [if_pos h1, h1, show cmb (cvS 42) x y = eMul x y from rfl, eMul_eq bx bY]
    by_cases hx0 : x = 0
    · rw [if_pos hx0, if_pos hx0]; exact r_arith _ h63
    · rw [if_neg hx0, if_neg hx0, zg_true (by
        unfold znzL
        simp only [Bool.not_eq_true', decide_eq_false_iff_not]
        intro e
        have := congrArg Int64.toInt e
        rw [eB_abs bx] at this
        have e0 : (0 : Int64).toInt = 0 := by decide
        rw [e0] at this
        exact hx0 (Int64.toInt_inj.mp (by rw [e0]; split at this <;> omega)))]
      by_cases hm : (if 0 < y then y else -y) ≤ 1000000000000 / (if 0 < x then x else -x)
      · rw [if_pos hm, if_pos hm]; exact r_arith _ h63
      · rw [if_neg hm, if_neg hm]; exact r_none
  rw [if_neg h1]
  by_cases h2 : op = 43
  · rw [if_pos h2, h2, show cmb (cvS 43) x y = eRng (x + y) from rfl]; exact r_arith _ h63
  rw [if_neg h2]
  by_cases h3 : op = 45
  · rw [if_pos h3, h3, show cmb (cvS 45) x y = eRng (x - y) from rfl]; exact r_arith _ h63
  rw [if_neg h3]
  by_cases h4 : op = 47
  · rw [if_pos h4, h4, show cmb (cvS 47) x y = eDiv x y from rfl]
    unfold eDiv
    by_cases hy0 : y = 0
    · rw [if_pos hy0, if_pos hy0]; exact r_none
    · rw [if_neg hy0, if_neg hy0, zg_true (by unfold znzL; simp [hy0])]; exact r_arith _ h63
  rw [if_neg h4]
  by_cases h5 : op = 60
  · rw [if_pos h5, h5, show cmb (cvS 60) x y = some (if y ≤ x then 0 else 1) from rfl]
    by_cases a : y ≤ x
    · rw [if_pos a, if_pos a]; exact r_logic 0 h63 rfl
    · rw [if_neg a, if_neg a]; exact r_logic 1 h63 rfl
  rw [if_neg h5]
  by_cases h6 : op = 61
  · rw [if_pos h6, h6, show cmb (cvS 61) x y = some (if x = y then 1 else 0) from rfl]
    by_cases a : x = y
    · rw [if_pos a, if_pos a]; exact r_logic 1 h63 rfl
    · rw [if_neg a, if_neg a]; exact r_logic 0 h63 rfl
  rw [if_neg h6]
  by_cases h7 : op = 62
  · rw [if_pos h7, h7, show cmb (cvS 62) x y = some (if x ≤ y then 0 else 1) from rfl]
    by_cases a : x ≤ y
    · rw [if_pos a, if_pos a]; exact r_logic 0 h63 rfl
    · rw [if_neg a, if_neg a]; exact r_logic 1 h63 rfl
  rw [if_neg h7]
  by_cases h8 : op = 256
  · rw [if_pos h8, h8, show cmb (cvS 256) x y = some (if y < x then 0 else 1) from rfl]
    by_cases a : y < x
    · rw [if_pos a, if_pos a]; exact r_logic 0 h63 rfl
    · rw [if_neg a, if_neg a]; exact r_logic 1 h63 rfl
  rw [if_neg h8]
  by_cases h9 : op = 257
  · rw [if_pos h9, h9, show cmb (cvS 257) x y = some (if x = y then 0 else 1) from rfl]
    by_cases a : x = y
    · rw [if_pos a, if_pos a]; exact r_logic 0 h63 rfl
    · rw [if_neg a, if_neg a]; exact r_logic 1 h63 rfl
  rw [if_neg h9]
  by_cases h10 : op = 258
  · rw [if_pos h10, h10, show cmb (cvS 258) x y = some (if x < y then 0 else 1) from rfl]
    by_cases a : x < y
    · rw [if_pos a, if_pos a]; exact r_logic 0 h63 rfl
    · rw [if_neg a, if_neg a]; exact r_logic 1 h63 rfl
  rw [if_neg h10]
  by_cases h11 : op = 261
  · rw [if_pos h11, h11, show cmb (cvS 261) x y = some (if x = 0 then 0 else if y = 0 then 0 else 1) from rfl]
    by_cases a : x = 0
    · rw [if_pos a, if_pos a]; exact r_logic 0 h63 rfl
    · rw [if_neg a, if_neg a]
      by_cases b : y = 0
      · rw [if_pos b, if_pos b]; exact r_logic 0 h63 rfl
      · rw [if_neg b, if_neg b]; exact r_logic 1 h63 rfl
  rw [if_neg h11]
  have ec : cvS op = 26 := by
    unfold cvS
    rw [if_neg h1, if_neg h2, if_neg h3, if_neg h4, if_neg h5, if_neg h6, if_neg h7, if_neg h8, if_neg h9, if_neg h10, if_neg hop, if_neg h11]
  rw [ec, show cmb 26 x y = some (if x = 0 then (if y = 0 then 0 else 1) else 1) from rfl]
  by_cases a : x = 0
  · rw [if_pos a, if_pos a]
    by_cases b : y = 0
    · rw [if_pos b, if_pos b]; exact r_logic 0 h63 rfl
    · rw [if_neg b, if_neg b]; exact r_logic 1 h63 rfl
  · rw [if_neg a, if_neg a]; exact r_logic 1 h63 rfl
theorem r_not {M : zM} {n : Nat} {y : Int64} (hn : M.1 98 34 = nI (n + 1)) (h64 : n < 64) (hy : M.2.1 117 n = y) : gX10_works 260 M = some (1, zJ M 117 n (if y = 0 then 1 else 0)) := by
  unfold gX10_works gX10_works_J40
  rw [hn, nI_pred, zg_true (zok_nI h64 (by omega)), nI_cl (by omega), zlet_eq, if_pos rfl, hy]
  simp only [lg_cmp_eq]
  by_cases h : y = 0
  · rw [if_pos h, if_pos h, zcL_some (r_is _ _), zg_true (zok_nI h64 (by omega)), zlet_eq]; rfl
  · rw [if_neg h, if_neg h, zcL_some (r_is _ _), zg_true (zok_nI h64 (by omega)), zlet_eq]; rfl
