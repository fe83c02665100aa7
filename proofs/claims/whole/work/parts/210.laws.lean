/-! ===== laws: what a row of KNOTS comes to ===== -/
abbrev eErr : Int64 := -9223372036854775808
def eRng (v : Int64) : Option Int64 := if 1000000000000 < v then none else if -1000000000000 ≤ v then some v else none
def eMul1 (x y m : Int64) : Option Int64 := if m < y then none else if -m ≤ y then eRng (x * y) else none
def eMul (x y : Int64) : Option Int64 := if x = 0 then eMul1 x y 1000000000000 else if 0 ≤ x then eMul1 x y (1000000000000 / x) else eMul1 x y (1000000000000 / -x)
def eDiv (x y : Int64) : Option Int64 := if y = 0 then none else eRng (x / y)
def cmb (k : Int32) (x y : Int64) : Option Int64 :=
  if k = 26 then some (if x = 0 then (if y = 0 then 0 else 1) else 1)
  else if k = 27 then some (if x = 0 then 0 else if y = 0 then 0 else 1)
  else if k = 29 then some (if y ≤ x then 0 else 1)
  else if k = 30 then some (if y < x then 0 else 1)
  else if k = 31 then some (if x = y then 1 else 0)
  else if k = 32 then some (if x = y then 0 else 1)
  else if k = 33 then some (if x < y then 0 else 1)
  else if k = 34 then some (if x ≤ y then 0 else 1)
  else if k = 35 then eRng (x + y)
  else if k = 36 then eRng (x - y)
  else if k = 37 then eMul x y
  else eDiv x y
theorem l_rng (v : Int64) (M : zM) : gX1_combine_J264 v M = some ((eRng v).getD eErr) := by
  unfold gX1_combine_J264 eRng
  simp only [lg_cmp_gt, lg_cmp_ge]
  by_cases h1 : 1000000000000 < v
  · simp [h1]
  · by_cases h2 : -1000000000000 ≤ v
    · simp [h1, h2]
    · simp [h1, h2]
theorem l_rngE (M : zM) : gX1_combine_J264 (-9223372036854775808) M = some eErr := by
  rw [l_rng]
  rfl
theorem l_div (x y : Int64) (M : zM) : gX1_combine_J247 x y M = some ((eDiv x y).getD eErr) := by
  unfold gX1_combine_J247 gX1_combine_J262 eDiv
  simp only [lg_cmp_eq]
  by_cases h : y = 0
  · rw [if_pos h, if_pos h, l_rngE]; rfl
  · rw [if_neg h, if_neg h, zg_true (by unfold znzL; simp [h]), l_rng]
theorem l_mul1 (x y m : Int64) (M : zM) : gX1_combine_J216 x y m M = some ((eMul1 x y m).getD eErr) := by
  unfold gX1_combine_J216 gX1_combine_J233 gX1_combine_J242 eMul1
  simp only [lg_cmp_gt, lg_cmp_ge]
  by_cases h1 : m < y
  · rw [if_pos h1, if_pos h1, l_rngE]; rfl
  · rw [if_neg h1, if_neg h1]
    by_cases h2 : -m ≤ y
    · rw [if_pos h2, if_pos h2, l_rng]
    · rw [if_neg h2, if_neg h2, l_rngE]; rfl
theorem l_mul (x y : Int64) (M : zM) : (if (lg_cmp x 0) = 0 then gX1_combine_J216 x y 1000000000000 M else (if 0 ≤ (lg_cmp x 0) then gX1_combine_J215 x y 1000000000000 x M else gX1_combine_J215 x y 1000000000000 (-x) M)) = some ((eMul x y).getD eErr) := by
  unfold gX1_combine_J215 eMul
  simp only [lg_cmp_eq, lg_cmp_ge]
  by_cases h : x = 0
  · rw [if_pos h, if_pos h, l_mul1]
  · rw [if_neg h, if_neg h]
    have h0 : ¬ -x = 0 := fun e => h (by have := congrArg Neg.neg e; simpa using this)
    by_cases h2 : 0 ≤ x
    · rw [if_pos h2, if_pos h2, zg_true (by unfold znzL; simp [h]), l_mul1]
    · rw [if_neg h2, if_neg h2, zg_true (by unfold znzL; simp only [Bool.not_eq_true', decide_eq_false_iff_not]; exact h0), l_mul1]
theorem l_combine {k : Int32} {x y : Int64} {M : zM} (hk : ¬ k = 28) : gX1_combine k x y M = some ((cmb k x y).getD eErr) := by
  unfold gX1_combine cmb
  rw [l_mul, l_div, l_rng, l_rng, if_neg hk]
  simp only [lg_cmp_eq, lg_cmp_ge, lg_cmp_gt, lg_cmp_lt, lg_cmp_le]
  by_cases h1 : k = 26
  · simp only [h1, if_true]; by_cases a : x = 0 <;> by_cases b : y = 0 <;> simp [a, b]
  rw [if_neg h1, if_neg h1]
  by_cases h2 : k = 27
  · simp only [h2, if_true]; by_cases a : x = 0 <;> by_cases b : y = 0 <;> simp [a, b]
  rw [if_neg h2, if_neg h2]
  by_cases h3 : k = 29
  · simp only [h3, if_true]; by_cases a : y ≤ x <;> simp [a]
  rw [if_neg h3, if_neg h3]
  by_cases h4 : k = 30
  · simp only [h4, if_true]; by_cases a : y < x <;> simp [a]
  rw [if_neg h4, if_neg h4]
  by_cases h5 : k = 31
  · simp only [h5, if_true]; by_cases a : x = y <;> simp [a]
  rw [if_neg h5, if_neg h5]
  by_cases h6 : k = 32
  · simp only [h6, if_true]; by_cases a : x = y <;> simp [a]
  rw [if_neg h6, if_neg h6]
  by_cases h7 : k = 33
  · simp only [h7, if_true]; by_cases a : x < y <;> simp [a]
  rw [if_neg h7, if_neg h7]
  by_cases h8 : k = 34
  · simp only [h8, if_true]; by_cases a : x ≤ y <;> simp [a]
  rw [if_neg h8, if_neg h8]
  by_cases h9 : k = 35
  · simp only [h9, if_true]
  rw [if_neg h9, if_neg h9]
  by_cases h10 : k = 36
  · simp only [h10, if_true]
  rw [if_neg h10, if_neg h10]
  by_cases h11 : k = 37
  · simp only [h11, if_true]
  rw [if_neg h11, if_neg h11]
/-- numbers that KNOTS come to -/
def eB (v : Int64) : Prop := -1000000000000 ≤ v.toInt ∧ v.toInt ≤ 1000000000000
theorem eRng_B {v r : Int64} (h : eRng v = some r) : eB r := by
  unfold eRng at h
  by_cases h1 : 1000000000000 < v
  · rw [if_pos h1] at h; cases h
  · rw [if_neg h1] at h
    by_cases h2 : -1000000000000 ≤ v
    · rw [if_pos h2] at h
      cases h
      rw [Int64.lt_iff_toInt_lt] at h1
      rw [Int64.le_iff_toInt_le] at h2
      have e1 : (1000000000000 : Int64).toInt = 1000000000000 := by decide
      have e2 : (-1000000000000 : Int64).toInt = -1000000000000 := by decide
      rw [e1] at h1
      rw [e2] at h2
      exact ⟨h2, by omega⟩
    · rw [if_neg h2] at h; cases h
theorem eB_01 : eB 0 ∧ eB 1 := by unfold eB; decide
theorem cmb_B {k : Int32} {x y r : Int64} (h : cmb k x y = some r) : eB r := by
  have z := eB_01
  unfold cmb at h
  repeat' (split at h)
  all_goals first
    | (cases h; (repeat' split) <;> first | exact z.1 | exact z.2)
    | exact eRng_B h
    | (unfold eMul eMul1 at h; (repeat' (split at h)) <;> first | exact eRng_B h | cases h)
    | (unfold eDiv at h; split at h <;> first | exact eRng_B h | cases h)
theorem eB_ne {v : Int64} (h : eB v) : ¬ v = eErr := by
  intro e
  rw [e] at h
  have : (eErr).toInt = -9223372036854775808 := by decide
  unfold eB at h
  omega
