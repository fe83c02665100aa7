/-! the reference's laws -/
def cvS (v : Int32) : Int32 := if v = 42 then 37 else if v = 43 then 35 else if v = 45 then 36 else if v = 47 then 38 else if v = 60 then 29 else if v = 61 then 31 else if v = 62 then 34 else if v = 256 then 30 else if v = 257 then 32 else if v = 258 then 33 else if v = 260 then 28 else if v = 261 then 27 else 26
def cvK (s v : Int32) : Int32 × Int32 := if s = 2 then (cvS v, 0) else if s = 0 then (3, v) else (19 + v, zc2 (12 + v.toNatClampNeg))
theorem J_toInt {x : Int64} (h : eB x) : (-x).toInt = -x.toInt := by
  rw [Int64.toInt_neg]
  unfold eB at h
  apply Int.bmod_eq_of_le <;> omega
theorem eB_abs {x : Int64} (h : eB x) : (if 0 < x then x else -x).toInt = if 0 < x.toInt then x.toInt else -x.toInt := by
  have e0 : (0 : Int64).toInt = 0 := by decide
  by_cases hx : 0 < x
  · have h2 : 0 < x.toInt := by rw [Int64.lt_iff_toInt_lt, e0] at hx; exact hx
    rw [if_pos hx, if_pos h2]
  · have h2 : ¬ 0 < x.toInt := by rw [Int64.lt_iff_toInt_lt, e0] at hx; exact hx
    rw [if_neg hx, if_neg h2, J_toInt h]
theorem eB_quot {x : Int64} (h : eB x) (h0 : ¬ x.toInt = 0) : eB (1000000000000 / x) := by
  have e1 : (1000000000000 : Int64).toInt = 1000000000000 := by decide
  unfold eB at h ⊢
  rw [Int64.toInt_div, e1]
  have hb : -1000000000000 ≤ (1000000000000 : Int).tdiv x.toInt ∧ (1000000000000 : Int).tdiv x.toInt ≤ 1000000000000 := by
    have h1 := Int.natAbs_tdiv_le_natAbs (1000000000000 : Int) x.toInt
    omega
  rw [Int.bmod_eq_of_le (by omega) (by omega)]
  exact hb
theorem eMul_eq {x y : Int64} (hx : eB x) (hy : eB y) : eMul x y = if x = 0 then eRng (x * y) else if (if 0 < y then y else -y) ≤ 1000000000000 / (if 0 < x then x else -x) then eRng (x * y) else none := by
  have e0 : (0 : Int64).toInt = 0 := by decide
  have e1 : (1000000000000 : Int64).toInt = 1000000000000 := by decide
  have e2 : (-1000000000000 : Int64).toInt = -1000000000000 := by decide
  have key : ∀ m : Int64, eB m → eMul1 x y m = if (if 0 < y then y else -y) ≤ m then eRng (x * y) else none := by
    intro m hm
    unfold eMul1
    have hyb := hy
    have hmb := hm
    unfold eB at hyb hmb
    have c1 : m < y ↔ m.toInt < y.toInt := Int64.lt_iff_toInt_lt
    have c2 : -m ≤ y ↔ -m.toInt ≤ y.toInt := by rw [Int64.le_iff_toInt_le, J_toInt hm]
    have c3 : (if 0 < y then y else -y) ≤ m ↔ (if 0 < y.toInt then y.toInt else -y.toInt) ≤ m.toInt := by rw [Int64.le_iff_toInt_le, eB_abs hy]
    by_cases a : m < y
    · rw [if_pos a, if_neg]
      rw [c3]; rw [c1] at a
      split <;> omega
    · rw [if_neg a]
      rw [c1] at a
      by_cases b : -m ≤ y
      · rw [if_pos b, if_pos]
        rw [c3]; rw [c2] at b
        split <;> omega
      · rw [if_neg b, if_neg]
        rw [c3]; rw [c2] at b
        split <;> omega
  unfold eMul
  by_cases h : x = 0
  · rw [if_pos h, if_pos h, key _ (by unfold eB; decide), if_pos]
    rw [Int64.le_iff_toInt_le, eB_abs hy, e1]
    unfold eB at hy
    split <;> omega
  · rw [if_neg h, if_neg h]
    have hx0 : ¬ x.toInt = 0 := fun z => h (Int64.toInt_inj.mp (by rw [z, e0]))
    by_cases h2 : 0 ≤ x
    · have h3 : 0 < x := by
        rw [Int64.le_iff_toInt_le, e0] at h2
        rw [Int64.lt_iff_toInt_lt, e0]
        omega
      rw [if_pos h2, if_pos h3, key _ (eB_quot hx hx0)]
    · have h3 : ¬ 0 < x := by
        rw [Int64.le_iff_toInt_le, e0] at h2
        rw [Int64.lt_iff_toInt_lt, e0]
        omega
      have hnx : eB (-x) := by unfold eB at hx ⊢; rw [J_toInt hx]; omega
      rw [if_neg h2, if_neg h3, key _ (eB_quot hnx (by rw [J_toInt hx]; omega))]
theorem r_is (x : Int32) (M : zM) : gX10_is x M = some (if x = 0 then 0 else 1) := by
  unfold gX10_is
  split <;> rfl
/-- the end of works: v is put on the stack -/
theorem r_put {M : zM} {v : Int64} {n : Nat} (hn : M.1 98 34 = nI (n + 1)) (h64 : n < 64) : gX10_works_J407 v M = some (if (eRng v).isSome then 1 else 0, zJ M 117 n v) := by
  unfold gX10_works_J407
  rw [hn, nI_pred, zg_true (zok_nI h64 (by omega)), nI_cl (by omega), zlet_eq]
  unfold eRng
  simp only [lg_cmp_gt, lg_cmp_lt]
  by_cases h1 : 1000000000000 < v
  · simp [h1]
  · rw [if_neg h1, if_neg h1]
    have e : v < -1000000000000 ↔ ¬ -1000000000000 ≤ v := by
      rw [Int64.lt_iff_toInt_lt, Int64.le_iff_toInt_le]; omega
    by_cases h2 : -1000000000000 ≤ v
    · rw [if_neg (fun z => (e.mp z) h2), if_pos h2]; rfl
    · rw [if_pos (e.mpr h2), if_neg h2]; rfl
theorem eRng_01 : (eRng 0).isSome = true ∧ (eRng 1).isSome = true := by decide
theorem r_bool {M : zM} {b : Int32} {n : Nat} (hn : M.1 98 34 = nI (n + 1)) (h64 : n < 64) : zcL (gX10_is b M) (fun v => gX10_works_J407 v M) = some (1, zJ M 117 n (if b = 0 then 0 else 1)) := by
  rw [zcL_some (r_is b M), r_put hn h64]
  by_cases h : b = 0
  · rw [if_pos h, if_pos eRng_01.1]
  · rw [if_neg h, if_pos eRng_01.2]
