/-! match -/
theorem bit_all : (List.range 256).all (fun k => (List.range 8).all (fun t => decide ((nI k ||| ((1 : Int32) <<< ((nI t : Int32) &&& 31))) = nI (k ||| 2 ^ t)) && decide ((((nI k : Int32) >>> ((nI t : Int32) &&& 31)) &&& 1) = if k.testBit t then 1 else 0) && decide (k ||| 2 ^ t < 256))) = true := by decide +kernel
theorem bit_at {k t : Nat} (hk : k < 256) (ht : t < 8) : (nI k ||| ((1 : Int32) <<< ((nI t : Int32) &&& 31))) = nI (k ||| 2 ^ t) ∧ (((nI k : Int32) >>> ((nI t : Int32) &&& 31)) &&& 1) = (if k.testBit t then 1 else 0) := by
  have h := List.all_eq_true.mp bit_all k (List.mem_range.mpr hk)
  have h := List.all_eq_true.mp h t (List.mem_range.mpr ht)
  rw [Bool.and_eq_true, Bool.and_eq_true] at h
  exact ⟨of_decide_eq_true h.1.1, of_decide_eq_true h.1.2⟩
theorem or_lt {k t T : Nat} (hk : k < 2 ^ T) (ht : t < T) : k ||| 2 ^ t < 2 ^ T := Nat.or_lt_two_pow hk (Nat.pow_lt_pow_right (by omega) ht)
theorem pow_8 {T : Nat} (h : T ≤ 8) : 2 ^ T ≤ 256 := by
  have := Nat.pow_le_pow_right (n := 2) (by omega) h
  omega
/-- the most, the first that is the most -/
def mxo (b0 : Nat) (c : Nat → Bool) (v : Nat → Nat) : Nat → Nat
  | 0 => b0
  | k + 1 => if c k then max (mxo b0 c v k) (v k) else mxo b0 c v k
def chs (b0 : Nat) (c : Nat → Bool) (v : Nat → Nat) : Nat → Option Nat
  | 0 => none
  | k + 1 => if c k && decide (mxo b0 c v k < v k) then some k else chs b0 c v k
theorem mxo_s {b0 : Nat} {c : Nat → Bool} {v : Nat → Nat} {k : Nat} : mxo b0 c v (k + 1) = if c k then max (mxo b0 c v k) (v k) else mxo b0 c v k := rfl
theorem chs_s {b0 : Nat} {c : Nat → Bool} {v : Nat → Nat} {k : Nat} : chs b0 c v (k + 1) = if c k && decide (mxo b0 c v k < v k) then some k else chs b0 c v k := rfl
theorem mxo_ge {b0 : Nat} {c : Nat → Bool} {v : Nat → Nat} : ∀ k, b0 ≤ mxo b0 c v k ∧ ∀ i, i < k → c i = true → v i ≤ mxo b0 c v k := by
  intro k
  induction k with
  | zero => exact ⟨Nat.le_refl _, fun i h => by omega⟩
  | succ k ih =>
    rw [mxo_s]
    cases hc : c k with
    | true =>
      rw [if_pos rfl]
      refine ⟨Nat.le_trans ih.1 (Nat.le_max_left _ _), fun i hi h => ?_⟩
      by_cases e : i = k
      · rw [e]; exact Nat.le_max_right _ _
      · exact Nat.le_trans (ih.2 i (by omega) h) (Nat.le_max_left _ _)
    | false =>
      rw [if_neg (by decide)]
      refine ⟨ih.1, fun i hi h => ?_⟩
      by_cases e : i = k
      · rw [e, hc] at h; cases h
      · exact ih.2 i (by omega) h
theorem chs_spec {b0 : Nat} {c : Nat → Bool} {v : Nat → Nat} : ∀ k, (chs b0 c v k = none → mxo b0 c v k = b0) ∧ (∀ t, chs b0 c v k = some t → t < k ∧ c t = true ∧ v t = mxo b0 c v k ∧ b0 < mxo b0 c v k ∧ ∀ i, i < t → c i = true → v i < mxo b0 c v k) := by
  intro k
  induction k with
  | zero => exact ⟨fun _ => rfl, fun t h => by cases h⟩
  | succ k ih =>
    have hge := mxo_ge (b0 := b0) (c := c) (v := v) k
    rw [mxo_s, chs_s]
    cases hc : c k with
    | false =>
      simp only [Bool.false_and, Bool.false_eq_true, if_false]
      refine ⟨ih.1, fun t h => ?_⟩
      obtain ⟨h1, h2⟩ := ih.2 t h
      exact ⟨by omega, h2⟩
    | true =>
      rw [if_pos rfl, Bool.true_and]
      by_cases hl : mxo b0 c v k < v k
      · rw [decide_eq_true hl, if_pos rfl, Nat.max_eq_right (by omega)]
        refine ⟨fun h => (by cases h), fun t h => ?_⟩
        cases h
        exact ⟨by omega, hc, rfl, by omega, fun i hi h => by have := hge.2 i hi h; omega⟩
      · rw [decide_eq_false hl, if_neg (by decide), Nat.max_eq_left (by omega)]
        refine ⟨ih.1, fun t h => ?_⟩
        obtain ⟨h1, h2⟩ := ih.2 t h
        exact ⟨by omega, h2⟩
theorem mxo_congr {b0 b1 : Nat} {c c' : Nat → Bool} {v v' : Nat → Nat} (h0 : b0 = b1) : ∀ k, (∀ i, i < k → c i = c' i ∧ v i = v' i) → mxo b0 c v k = mxo b1 c' v' k := by
  intro k
  induction k with
  | zero => intro _; exact h0
  | succ k ih =>
    intro h
    rw [mxo_s, mxo_s, ih (fun i hi => h i (by omega)), (h k (by omega)).1, (h k (by omega)).2]
def cn (q : PPt) (V : AV) (m mask t : Nat) : Bool := !mask.testBit t && (!(V 4 m == 2) && ((V 8 t == 0) && decide (q.2.2.2.1 7 t ≤ q.2.2.2.1 4 m)))
def wt (q : PPt) (t : Nat) : Nat := (q.2.2.2.1 6 t).toNatClampNeg
def bst (q : PPt) (V : AV) : Nat → Nat → Nat
  | 0, _ => 0
  | d + 1, mask => mxo (bst q V d mask) (cn q V (q.1 - (d + 1)) mask) (fun t => wt q t + bst q V d (mask ||| 2 ^ t)) q.2.1
theorem bst_s {q : PPt} {V : AV} {d mask : Nat} : bst q V (d + 1) mask = mxo (bst q V d mask) (cn q V (q.1 - (d + 1)) mask) (fun t => wt q t + bst q V d (mask ||| 2 ^ t)) q.2.1 := rfl
def bch (q : PPt) (V : AV) (d mask : Nat) : Option Nat := chs (bst q V d mask) (cn q V (q.1 - (d + 1)) mask) (fun t => wt q t + bst q V d (mask ||| 2 ^ t)) q.2.1
def mk2 (mask : Nat) (o : Option Nat) : Nat := match o with
  | none => mask
  | some t => mask ||| 2 ^ t
/-- what the men from q.1 - d on have -/
def pth (q : PPt) (V : AV) : Nat → Nat → Nat → Int32
  | 0, _, _ => -2
  | d + 1, mask, i => if i = q.1 - (d + 1) then oT (bch q V d mask) else pth q V d (mk2 mask (bch q V d mask)) i
theorem wt_le {q : PPt} (hq : pI q) {t : Nat} (ht : t < q.2.1) : wt q t ≤ 99 ∧ q.2.2.2.1 6 t = nI (wt q t) := by
  obtain ⟨d, h1, h2⟩ := hq.2.2.2.2.1 t ht
  unfold wt
  rw [h2, nI_cl (by omega)]
  exact ⟨h1, rfl⟩
theorem mxo_le {b0 : Nat} {c : Nat → Bool} {v : Nat → Nat} {b : Nat} (h0 : b0 ≤ b) : ∀ k, (∀ i, i < k → v i ≤ b) → mxo b0 c v k ≤ b := by
  intro k
  induction k with
  | zero => intro _; exact h0
  | succ k ih =>
    intro h
    rw [mxo_s]
    split
    · exact Nat.max_le.mpr ⟨ih (fun i hi => h i (by omega)), h k (by omega)⟩
    · exact ih (fun i hi => h i (by omega))
theorem bst_le {q : PPt} {V : AV} (hq : pI q) : ∀ d mask, bst q V d mask ≤ 99 * d := by
  intro d
  induction d with
  | zero => intro _; exact Nat.zero_le _
  | succ d ih =>
    intro mask
    rw [bst_s]
    refine mxo_le (by have := ih mask; omega) _ (fun i hi => ?_)
    have a := (wt_le hq hi).1
    have b := ih (mask ||| 2 ^ i)
    show wt q i + bst q V d (mask ||| 2 ^ i) ≤ _
    omega
/-- the class's table -/
def tb (q : PPt) (V : AV) (A : Nat → Int32) (m k : Nat) : Nat → Int32 := fun i => if (i / 256 = m ∧ i % 256 < k) ∨ (m < i / 256 ∧ i / 256 ≤ q.1 ∧ i % 256 < 2 ^ q.2.1) then nI (bst q V (q.1 - i / 256) (i % 256)) else A i
theorem tb_put {q : PPt} {V : AV} {A : Nat → Int32} {m k : Nat} (hk : k < 256) : fset (tb q V A m k) (m * 256 + k) (nI (bst q V (q.1 - m) k)) = tb q V A m (k + 1) := by
  funext i
  unfold fset tb
  by_cases h : i = m * 256 + k
  · rw [if_pos h, if_pos (Or.inl (by omega)), show i / 256 = m by omega, show i % 256 = k by omega]
  · rw [if_neg h]
    by_cases g : (i / 256 = m ∧ i % 256 < k) ∨ (m < i / 256 ∧ i / 256 ≤ q.1 ∧ i % 256 < 2 ^ q.2.1)
    · rw [if_pos g, if_pos (by omega)]
    · rw [if_neg g, if_neg (by omega)]
theorem tb_next {q : PPt} {V : AV} {A : Nat → Int32} {m : Nat} (hm : m + 1 ≤ q.1) : tb q V A (m + 1) (2 ^ q.2.1) = tb q V A m 0 := by
  funext i
  unfold tb
  by_cases g : (i / 256 = m + 1 ∧ i % 256 < 2 ^ q.2.1) ∨ (m + 1 < i / 256 ∧ i / 256 ≤ q.1 ∧ i % 256 < 2 ^ q.2.1)
  · rw [if_pos g, if_pos (by omega)]
  · rw [if_neg g, if_neg (by omega)]
theorem tb_at {q : PPt} {V : AV} {A : Nat → Int32} {m k m' mask : Nat} (h1 : m < m') (h2 : m' ≤ q.1) (h3 : mask < 2 ^ q.2.1) (h4 : mask < 256) : tb q V A m k (m' * 256 + mask) = nI (bst q V (q.1 - m') mask) := by
  unfold tb
  rw [if_pos (Or.inr (by omega)), show (m' * 256 + mask) / 256 = m' by omega, show (m' * 256 + mask) % 256 = mask by omega]
/-- what of the class's memory counts for match -/
def cM (M : zM) (p : Nat) (q : PPt) (V : AV) : Prop := M.2.2 55 0 = some p ∧ cPl M p q ∧ cV M q 55 V
theorem cM.row {M : zM} {p : Nat} {q : PPt} {V : AV} (h : cM M p q V) {a : Nat} {A : Nat → Int32} (ha : a = 96 ∨ a = 97) : cM (rset M a A) p q V :=
  ⟨h.1, h.2.1.mono (fun b i z1 z2 => by rw [rset_of (by have := isPl_lt h.2.1.1.1; omega)]), h.2.2.mono (fun b i z1 z2 _ => by rw [rset_of (by omega)])⟩
theorem c_may {M : zM} {p : Nat} {q : PPt} {V : AV} {m t mask : Nat} (h : cM M p q V) (hq : pI q) (hm : m < q.1) (ht : t < q.2.1) (hk : mask < 256) : gX2_mayHave 55 (nI m) (nI t) (nI mask) M = some (b2i (cn q V m mask t)) := by
  have hn := hq.1.1
  have hT := hq.1.2.1
  unfold gX2_mayHave cn
  rw [(bit_at hk (by omega)).2]
  cases hb : mask.testBit t with
  | true => rw [show (if true = true then (1 : Int32) else 0) = 1 from rfl, if_neg (show ¬ (1 : Int32) = 0 by decide)]; rfl
  | false =>
    rw [show (if false = true then (1 : Int32) else 0) = 0 from rfl, if_pos rfl, zg_true (zok_nI (show m < 6 by omega) (by omega)), nI_cl (by omega), show M.1 (55 + 4) m = V 4 m from h.2.2.mm (by omega) (by omega) hm]
    by_cases h4 : V 4 m = 2
    · rw [if_pos h4, h4]; rfl
    · rw [if_neg h4, zg_true (zok_nI (show t < 8 by omega) (by omega)), nI_cl (by omega), show M.1 (55 + 8) t = V 8 t from h.2.2.tt (by omega) (by omega) ht, beq_eq_false_iff_ne.mpr h4]
      by_cases h8 : V 8 t = 0
      · rw [if_pos h8, zgP_some h.1 h.2.1.1.1, zg_true (zok_nI (show t < 8 by omega) (by omega)), zgP_some h.1 h.2.1.1.1, zg_true (zok_nI (show m < 6 by omega) (by omega)), h.2.1.nn (c := 4) (by omega) (by omega) hm, h.2.1.tt (c := 7) (by omega) (by omega) ht, h8]
        by_cases g : q.2.2.2.1 4 m < q.2.2.2.1 7 t
        · rw [if_pos g, decide_eq_false (Int32.not_le.mpr g)]; rfl
        · rw [if_neg g, decide_eq_true (Int32.not_lt.mp g)]; rfl
      · rw [if_neg h8, beq_eq_false_iff_ne.mpr h8]; rfl
theorem nI_tab {m k : Nat} : nI m * 256 + nI k = nI (m * 256 + k) := by
  rw [show (256 : Int32) = nI 256 by decide, nI_mul', nI_add]
theorem nI_tab1 {m k : Nat} : (nI m + 1) * 256 + nI k = nI ((m + 1) * 256 + k) := by
  rw [nI_1, nI_tab]
theorem c_with {M : zM} {p : Nat} {q : PPt} {V : AV} {A : Nat → Int32} {m t mask k' m' : Nat} (h : cM M p q V) (hq : pI q) (hm : m < q.1) (ht : t < q.2.1) (hk : mask < 2 ^ q.2.1) (hA : M.1 96 = tb q V A m' k') (hm' : m' ≤ m) : gX2_worthWith 55 (nI m) (nI t) (nI mask) M = some (nI (wt q t + bst q V (q.1 - (m + 1)) (mask ||| 2 ^ t))) := by
  have hn := hq.1.1
  have hT := hq.1.2.1
  have h256 := pow_8 hT
  have ho := or_lt hk ht
  have hw := wt_le hq ht
  unfold gX2_worthWith
  rw [zgP_some h.1 h.2.1.1.1, zg_true (zok_nI (show t < 8 by omega) (by omega)), (bit_at (show mask < 256 by omega) (show t < 8 by omega)).1, nI_tab1, zg_true (zok_nI (show (m + 1) * 256 + (mask ||| 2 ^ t) < 1792 by omega) (by omega)), nI_cl (show (m + 1) * 256 + (mask ||| 2 ^ t) < 2 ^ 31 by omega), hA, tb_at (by omega) (by omega) ho (by omega), nI_cl (show t < 2 ^ 31 by omega), h.2.1.tt (c := 6) (by omega) (by omega) ht, hw.2, nI_add]
theorem c_most {M : zM} {p : Nat} {q : PPt} {V : AV} {A : Nat → Int32} {m mask k' : Nat} (h : cM M p q V) (hq : pI q) (hm : m < q.1) (hk : mask < 2 ^ q.2.1) (hA : M.1 96 = tb q V A m k') : gX2_mostOf 55 (nI m) (nI mask) M = some (nI (bst q V (q.1 - m) mask)) := by
  have hn := hq.1.1
  have hT := hq.1.2.1
  have h256 := pow_8 hT
  unfold gX2_mostOf
  rw [nI_tab1, zg_true (zok_nI (show (m + 1) * 256 + mask < 1792 by omega) (by omega)), zlet_eq, nI_cl (show (m + 1) * 256 + mask < 2 ^ 31 by omega), hA, tb_at (by omega) (by omega) hk (by omega), show q.1 - m = (q.1 - (m + 1)) + 1 by omega, bst_s, show q.1 - (q.1 - (m + 1) + 1) = m by omega]
  refine zfix_run (fun t => (nI (mxo (bst q V (q.1 - (m + 1)) mask) (cn q V m mask) (fun t => wt q t + bst q V (q.1 - (m + 1)) (mask ||| 2 ^ t)) t), nI t)) q.2.1 (by rw [nI_0]; rfl) (by unfold zFu; omega) ?_ ?_
  · intro t ht rc
    unfold gX2_mostOf_L19
    dsimp only
    rw [zgP_some h.1 h.2.1.1.1, h.2.1.1.2.2.1.1, if_neg (nI_ge ht (by omega)), nI_lit8, if_neg (nI_ge (by omega) (by omega)), zcI_some (c_may h hq hm ht (by omega)), nI_1, mxo_s]
    cases hc : cn q V m mask t with
    | false => rw [if_pos (show b2i false = 0 from rfl), if_neg (by decide)]
    | true =>
      have b1 := bst_le (V := V) hq (q.1 - (m + 1)) mask
      have b2 := bst_le (V := V) hq (q.1 - (m + 1)) (mask ||| 2 ^ t)
      have b3 := (wt_le hq ht).1
      have b4 : mxo (bst q V (q.1 - (m + 1)) mask) (cn q V m mask) (fun t => wt q t + bst q V (q.1 - (m + 1)) (mask ||| 2 ^ t)) t ≤ 99 * 7 := mxo_le (by omega) _ (fun i hi => by
        have c1 := bst_le (V := V) hq (q.1 - (m + 1)) (mask ||| 2 ^ i)
        have c2 := (wt_le hq (show i < q.2.1 by omega)).1
        show wt q i + bst q V (q.1 - (m + 1)) (mask ||| 2 ^ i) ≤ _
        omega)
      rw [if_neg (show ¬ b2i true = 0 by decide), zcI_some (c_with h hq hm ht hk hA (Nat.le_refl _)), zlet_eq, nI_max (by omega) (by omega), if_pos rfl]
  · intro rc
    unfold gX2_mostOf_L19
    dsimp only
    rw [zgP_some h.1 h.2.1.1.1, h.2.1.1.2.2.1.1, if_pos (nI_le (Nat.le_refl _) (by omega))]
theorem c_first {M : zM} {p : Nat} {q : PPt} {V : AV} {A : Nat → Int32} {m mask t : Nat} {k' m' : Nat} (h : cM M p q V) (hq : pI q) (hm : m < q.1) (hk : mask < 2 ^ q.2.1) (hA : M.1 96 = tb q V A m' k') (hm' : m' ≤ m) (hb : M.1 96 (m * 256 + mask) = nI (bst q V (q.1 - m) mask)) (ht : bch q V (q.1 - (m + 1)) mask = some t) : gX2_firstOf 55 (nI m) (nI mask) M = some (nI t) := by
  have hn := hq.1.1
  have hT := hq.1.2.1
  have h256 := pow_8 hT
  unfold bch at ht
  obtain ⟨t1, t2, t3, t4, t5⟩ := (chs_spec q.2.1).2 t ht
  have eM : mxo (bst q V (q.1 - (m + 1)) mask) (cn q V (q.1 - (q.1 - (m + 1) + 1)) mask) (fun t => wt q t + bst q V (q.1 - (m + 1)) (mask ||| 2 ^ t)) q.2.1 = bst q V (q.1 - m) mask := by
    rw [show q.1 - m = q.1 - (m + 1) + 1 by omega]; rfl
  rw [eM] at t3 t5
  rw [show q.1 - (q.1 - (m + 1) + 1) = m by omega] at t2 t5
  have hP : ∀ i, i < q.2.1 → (cn q V m mask i && (wt q i + bst q V (q.1 - (m + 1)) (mask ||| 2 ^ i) == bst q V (q.1 - m) mask)) = true ∨ (cn q V m mask i && (wt q i + bst q V (q.1 - (m + 1)) (mask ||| 2 ^ i) == bst q V (q.1 - m) mask)) = false := fun i _ => by cases (cn q V m mask i && (wt q i + bst q V (q.1 - (m + 1)) (mask ||| 2 ^ i) == bst q V (q.1 - m) mask)) <;> simp
  have hf : ffst (fun i => cn q V m mask i && (wt q i + bst q V (q.1 - (m + 1)) (mask ||| 2 ^ i) == bst q V (q.1 - m) mask)) q.2.1 = some t := by
    refine ffst_is t1 ?_ (fun i hi => ?_)
    · show (cn q V m mask t && _) = true
      rw [t2, Bool.true_and]
      simpa using t3
    · show (cn q V m mask i && _) = false
      cases hc : cn q V m mask i with
      | false => rfl
      | true =>
        have := t5 i hi hc
        rw [Bool.true_and, beq_eq_false_iff_ne]
        omega
  have hlt : ∀ i, i < q.2.1 → wt q i + bst q V (q.1 - (m + 1)) (mask ||| 2 ^ i) < 2 ^ 31 ∧ bst q V (q.1 - m) mask < 2 ^ 31 := fun i hi => by
    have c1 := bst_le (V := V) hq (q.1 - (m + 1)) (mask ||| 2 ^ i)
    have c2 := (wt_le hq hi).1
    have c3 := bst_le (V := V) hq (q.1 - m) mask
    omega
  unfold gX2_firstOf
  rw [zfix_find (B := gX2_firstOf_L3 55 (nI m) (nI mask) M) (fun k => nI k) (fun i => cn q V m mask i && (wt q i + bst q V (q.1 - (m + 1)) (mask ||| 2 ^ i) == bst q V (q.1 - m) mask)) (fun k => some (nI k)) (some (-2)) q.2.1 nI_0.symm (by unfold zFu; omega) ?_ ?_ ?_, hf]
  · intro i hi hp rc
    unfold gX2_firstOf_L3
    rw [zgP_some h.1 h.2.1.1.1, h.2.1.1.2.2.1.1, if_neg (nI_ge hi (by omega)), nI_lit8, if_neg (nI_ge (by omega) (by omega)), zcI_some (c_may h hq hm hi (by omega)), nI_1]
    cases hc : cn q V m mask i with
    | false => rw [if_pos (show b2i false = 0 from rfl)]
    | true =>
      rw [hc, Bool.true_and, beq_eq_false_iff_ne] at hp
      rw [if_neg (show ¬ b2i true = 0 by decide), zcI_some (c_with h hq hm hi hk hA hm'), nI_tab, zg_true (zok_nI (show m * 256 + mask < 1792 by omega) (by omega)), nI_cl (show m * 256 + mask < 2 ^ 31 by omega), hb, if_neg]
      intro w
      have := congrArg Int32.toInt w
      rw [nI_toInt (hlt i hi).1, nI_toInt (hlt i hi).2] at this
      omega
  · intro i hi hp rc
    rw [Bool.and_eq_true] at hp
    unfold gX2_firstOf_L3
    rw [zgP_some h.1 h.2.1.1.1, h.2.1.1.2.2.1.1, if_neg (nI_ge hi (by omega)), nI_lit8, if_neg (nI_ge (by omega) (by omega)), zcI_some (c_may h hq hm hi (by omega)), hp.1, if_neg (show ¬ b2i true = 0 by decide), zcI_some (c_with h hq hm hi hk hA hm'), nI_tab, zg_true (zok_nI (show m * 256 + mask < 1792 by omega) (by omega)), nI_cl (show m * 256 + mask < 2 ^ 31 by omega), hb, if_pos]
    have : wt q i + bst q V (q.1 - (m + 1)) (mask ||| 2 ^ i) = bst q V (q.1 - m) mask := by simpa using hp.2
    rw [this]
  · intro rc
    unfold gX2_firstOf_L3
    rw [zgP_some h.1 h.2.1.1.1, h.2.1.1.2.2.1.1, if_pos (nI_le (Nat.le_refl _) (by omega))]
