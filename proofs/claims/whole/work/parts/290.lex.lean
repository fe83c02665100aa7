/-! TOKENS -/
def wT : List (List Nat) := [[13, 1, 14], [20, 8, 9, 14, 7], [12, 15, 15, 11], [3, 18, 15, 23, 4], [8, 5, 1, 20], [7, 21, 19, 20], [18, 9, 19, 11], [19, 5, 5, 4], [12, 1, 23], [4, 1, 18, 5], [1, 6, 20, 5, 18], [8, 21, 18, 20], [15, 18], [1, 14, 4], [14, 15, 20], [6, 5, 1, 18], [18, 21, 5], [19, 11, 9, 12, 12], [12, 15, 15, 11, 19], [8, 15, 20], [4, 5, 16, 20, 8], [19, 20, 5, 16]]
def wO : List Nat := [0, 4, 10, 15, 21, 26, 31, 36, 41, 45, 50, 56, 61, 64, 68, 72, 77, 81, 87, 93, 97, 103, 108]
/-- the class's order of words by the reference's -/
def wP : List Nat := [0, 1, 2, 3, 4, 5, 6, 7, 8, 9, 10, 11, 15, 16, 17, 18, 19, 20, 21, 12, 13, 14]
def wL (n : Nat) : List Nat := wT.getD n []
def wF (n : Nat) : Nat := wO.getD n 0
def wQ (n : Nat) : Nat := wP.getD n 0
def wE (n i : Nat) : Nat := (wL n).getD i 0
theorem wd_all : (List.range 22).all (fun n => decide (wF n + (wL n).length + 1 = wF (n + 1)) && decide ((wL n).length ≤ 5) && decide (1 ≤ (wL n).length) && decide (wF (n + 1) ≤ 108) && decide (zTb.getD (wF n + (wL n).length) 0 = 32) && (List.range (wL n).length).all (fun i => decide (zTb.getD (wF n + i) 0 = nI (96 + wE n i)) && decide (1 ≤ wE n i) && decide (wE n i ≤ 26))) = true := by decide +kernel
theorem wd_at {n : Nat} (h : n < 22) : wF n + (wL n).length + 1 = wF (n + 1) ∧ (wL n).length ≤ 5 ∧ 1 ≤ (wL n).length ∧ wF (n + 1) ≤ 108 ∧ zTb.getD (wF n + (wL n).length) 0 = 32 ∧ ∀ i, i < (wL n).length → zTb.getD (wF n + i) 0 = nI (96 + wE n i) ∧ 1 ≤ wE n i ∧ wE n i ≤ 26 := by
  have a := List.all_eq_true.mp wd_all n (List.mem_range.mpr h)
  rw [Bool.and_eq_true, Bool.and_eq_true, Bool.and_eq_true, Bool.and_eq_true, Bool.and_eq_true] at a
  obtain ⟨⟨⟨⟨⟨a1, a2⟩, a3⟩, a4⟩, a5⟩, a6⟩ := a
  refine ⟨of_decide_eq_true a1, of_decide_eq_true a2, of_decide_eq_true a3, of_decide_eq_true a4, of_decide_eq_true a5, fun i hi => ?_⟩
  have b := List.all_eq_true.mp a6 i (List.mem_range.mpr hi)
  rw [Bool.and_eq_true, Bool.and_eq_true] at b
  exact ⟨of_decide_eq_true b.1.1, of_decide_eq_true b.1.2, of_decide_eq_true b.2⟩
/-- a word's letters as one number -/
def cd6 (e : Nat → Nat) : Nat := e 0 * 33554432 + e 1 * 1048576 + e 2 * 32768 + e 3 * 1024 + e 4 * 32 + e 5
theorem cd6_inj {e e' : Nat → Nat} (h : ∀ i, i < 6 → e i ≤ 31 ∧ e' i ≤ 31) (w : cd6 e = cd6 e') : ∀ i, i < 6 → e i = e' i := by
  unfold cd6 at w
  have h0 := h 0 (by omega)
  have h1 := h 1 (by omega)
  have h2 := h 2 (by omega)
  have h3 := h 3 (by omega)
  have h4 := h 4 (by omega)
  have h5 := h 5 (by omega)
  intro i hi
  rcases (show i = 0 ∨ i = 1 ∨ i = 2 ∨ i = 3 ∨ i = 4 ∨ i = 5 by omega) with rfl | rfl | rfl | rfl | rfl | rfl <;> omega
theorem cd6_lt {e : Nat → Nat} (h : ∀ i, i < 6 → e i ≤ 31) : cd6 e < 2 ^ 30 := by
  unfold cd6
  have h0 := h 0 (by omega)
  have h1 := h 1 (by omega)
  have h2 := h 2 (by omega)
  have h3 := h 3 (by omega)
  have h4 := h 4 (by omega)
  have h5 := h 5 (by omega)
  omega
theorem wc_all : (List.range 22).all (fun n => decide (zc2 n = nI (cd6 (wE (wQ n)))) && decide (wQ n < 22) && (List.range 22).all (fun m => decide (m = n) || !decide (wQ m = wQ n))) = true := by decide +kernel
theorem wc_at {n : Nat} (h : n < 22) : zc2 n = nI (cd6 (wE (wQ n))) ∧ wQ n < 22 ∧ ∀ m, m < 22 → wQ m = wQ n → m = n := by
  have a := List.all_eq_true.mp wc_all n (List.mem_range.mpr h)
  rw [Bool.and_eq_true, Bool.and_eq_true] at a
  refine ⟨of_decide_eq_true a.1.1, of_decide_eq_true a.1.2, fun m hm e => ?_⟩
  have b := List.all_eq_true.mp a.2 m (List.mem_range.mpr hm)
  rw [Bool.or_eq_true] at b
  rcases b with b | b
  · exact of_decide_eq_true b
  · rw [e] at b; simp at b
theorem wi_all : (List.range 22).all (fun n => (List.range 22).any (fun m => decide (wQ m = n))) = true := by decide +kernel
theorem wi_at {n : Nat} (h : n < 22) : ∃ m, m < 22 ∧ wQ m = n := by
  have a := List.all_eq_true.mp wi_all n (List.mem_range.mpr h)
  obtain ⟨m, hm, e⟩ := List.any_eq_true.mp a
  exact ⟨m, List.mem_range.mp hm, of_decide_eq_true e⟩
theorem wE_out {n i : Nat} (h : (wL n).length ≤ i) : wE n i = 0 := by
  unfold wE
  rw [List.getD_eq_getElem?_getD, List.getElem?_eq_none h]
  rfl
/-- the word n is the one of l letters d -/
def isWd (l : Nat) (d : Nat → Nat) (n : Nat) : Bool := decide (l = (wL n).length) && (List.range (wL n).length).all (fun i => decide (d i = wE n i))
theorem isWd_iff {l : Nat} {d : Nat → Nat} {n : Nat} : isWd l d n = true ↔ l = (wL n).length ∧ ∀ i, i < l → d i = wE n i := by
  unfold isWd
  rw [Bool.and_eq_true]
  constructor
  · intro h
    have h1 : l = (wL n).length := of_decide_eq_true h.1
    exact ⟨h1, fun i hi => of_decide_eq_true (List.all_eq_true.mp h.2 i (List.mem_range.mpr (by omega)))⟩
  · intro h
    refine ⟨decide_eq_true h.1, List.all_eq_true.mpr (fun i hi => decide_eq_true (h.2 i (by rw [h.1]; exact List.mem_range.mp hi)))⟩
def dE (l : Nat) (d : Nat → Nat) (i : Nat) : Nat := if i < l then d i else 0
theorem code_iff {l : Nat} {d : Nat → Nat} {n : Nat} (hn : n < 22) (hl : l ≤ 6) (hd : ∀ i, i < l → 1 ≤ d i ∧ d i ≤ 26) : (zc2 n = nI (cd6 (dE l d))) ↔ isWd l d (wQ n) = true := by
  obtain ⟨c1, c2, c3⟩ := wc_at hn
  obtain ⟨w1, w2, w3, w4, w5, w6⟩ := wd_at c2
  have b1 : ∀ i, i < 6 → dE l d i ≤ 31 := fun i hi => by
    unfold dE
    split
    · rename_i h; have := hd i h; omega
    · omega
  have b2 : ∀ i, i < 6 → wE (wQ n) i ≤ 31 := fun i hi => by
    by_cases h : i < (wL (wQ n)).length
    · have := (w6 i h).2.2; omega
    · rw [wE_out (by omega)]; omega
  rw [c1, isWd_iff]
  constructor
  · intro e
    have e' : cd6 (wE (wQ n)) = cd6 (dE l d) := by
      have := congrArg Int32.toInt e
      rw [nI_toInt (by have := cd6_lt b2; omega), nI_toInt (by have := cd6_lt b1; omega)] at this
      omega
    have eq := cd6_inj (fun i hi => ⟨b2 i hi, b1 i hi⟩) e'
    have hlen : l = (wL (wQ n)).length := by
      rcases Nat.lt_trichotomy l (wL (wQ n)).length with h | h | h
      · have a := eq l (by omega)
        have b := (w6 l h).2.1
        unfold dE at a
        rw [if_neg (by omega)] at a
        omega
      · exact h
      · have a := eq (wL (wQ n)).length (by omega)
        rw [wE_out (Nat.le_refl _)] at a
        unfold dE at a
        rw [if_pos h] at a
        have b := (hd _ h).1
        omega
    refine ⟨hlen, fun i hi => ?_⟩
    have a := eq i (by omega)
    unfold dE at a
    rw [if_pos hi] at a
    exact a.symm
  · intro ⟨h1, h2⟩
    have : ∀ i, i < 6 → wE (wQ n) i = dE l d i := fun i hi => by
      unfold dE
      by_cases h : i < l
      · rw [if_pos h, h2 i h]
      · rw [if_neg h, wE_out (by omega)]
    unfold cd6
    rw [this 0 (by omega), this 1 (by omega), this 2 (by omega), this 3 (by omega), this 4 (by omega), this 5 (by omega)]
theorem isWd_uniq {l : Nat} {d : Nat → Nat} {n m : Nat} (hn : n < 22) (hm : m < 22) (hl : l ≤ 6) (hd : ∀ i, i < l → 1 ≤ d i ∧ d i ≤ 26) (h1 : isWd l d n = true) (h2 : isWd l d m = true) : n = m := by
  obtain ⟨n', a1, a2⟩ := wi_at hn
  obtain ⟨m', b1, b2⟩ := wi_at hm
  rw [← a2] at h1
  rw [← b2] at h2
  have e1 := (code_iff a1 hl hd).mpr h1
  have e2 := (code_iff b1 hl hd).mpr h2
  rw [← e2] at e1
  have c1 := wc_at a1
  have c2 := wc_at b1
  rw [c1.1, c2.1] at e1
  -- equal codes: equal letters, so the same word
  have hall : ∀ x, x < 22 → ∀ y, y < 22 → zc2 x = zc2 y → x = y := by
    have : (List.range 22).all (fun x => (List.range 22).all (fun y => !decide (zc2 x = zc2 y) || decide (x = y))) = true := by decide +kernel
    intro x hx y hy e
    have a := List.all_eq_true.mp this x (List.mem_range.mpr hx)
    have b := List.all_eq_true.mp a y (List.mem_range.mpr hy)
    rw [e] at b
    simpa using b
  have : n' = m' := hall n' a1 m' b1 (by rw [c1.1, c2.1]; exact e1)
  rw [← a2, ← b2, this]
/-- which word: class and reference -/
theorem word_c {l : Nat} {d : Nat → Nat} (hl : l ≤ 6) (hd : ∀ i, i < l → 1 ≤ d i ∧ d i ≤ 26) : ffst (isWd l d) 22 = (ffst (fun n => zc2 n == nI (cd6 (dE l d))) 22).map wQ := by
  cases e : ffst (fun n => zc2 n == nI (cd6 (dE l d))) 22 with
  | none =>
    refine ffst_all (fun k hk => ?_)
    cases hb : isWd l d k with
    | false => rfl
    | true =>
      obtain ⟨m, hm, em⟩ := wi_at hk
      rw [← em] at hb
      have := (code_iff hm hl hd).mpr hb
      have f := ffst_none e m hm
      rw [this] at f
      simp at f
  | some n =>
    obtain ⟨h1, h2, h3⟩ := ffst_some e
    have h2' : zc2 n = nI (cd6 (dE l d)) := by simpa using h2
    have hw := (code_iff h1 hl hd).mp h2'
    exact ffst_uniq (wc_at h1).2.1 hw (fun k hk w => isWd_uniq hk (wc_at h1).2.1 hl hd w hw)
theorem nI_or (a b : Nat) : nI a ||| nI b = nI (a ||| b) := by
  apply Int32.toBitVec_inj.mp
  rw [Int32.toBitVec_or]
  show BitVec.ofNat 32 a ||| BitVec.ofNat 32 b = BitVec.ofNat 32 (a ||| b)
  rw [BitVec.ofNat_or]
theorem nI_shl (a s : Nat) (hs : s < 32) : nI a <<< nI s = nI (a * 2 ^ s) := by
  apply Int32.toBitVec_inj.mp
  rw [Int32.toBitVec_shiftLeft]
  have : ((nI s).toBitVec.smod 32).toNat = s := by
    have : ∀ m : Fin 32, ((nI m.val).toBitVec.smod 32).toNat = m.val := by decide
    exact this ⟨s, hs⟩
  show BitVec.ofNat 32 a <<< ((nI s).toBitVec.smod 32).toNat = BitVec.ofNat 32 (a * 2 ^ s)
  rw [this]
  apply BitVec.eq_of_toNat_eq
  rw [BitVec.toNat_shiftLeft, BitVec.toNat_ofNat, BitVec.toNat_ofNat, Nat.shiftLeft_eq, Nat.mod_mul_mod]
theorem or_add (x d s : Nat) (hd : d < 2 ^ s) : (x * 2 ^ s) ||| d = x * 2 ^ s + d := by
  rw [Nat.mul_comm, ← Nat.two_pow_add_eq_or_of_lt hd]
