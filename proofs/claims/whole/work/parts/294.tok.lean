/-! the reference's token() -/
def nm (l : Nat) (d : Nat → Nat) : Nat → Nat
  | 0 => 0
  | k + 1 => nm l d k * 32 + dE l d k
theorem nm_lt {l : Nat} {d : Nat → Nat} (hd : ∀ i, i < 6 → dE l d i ≤ 31) : ∀ k, k ≤ 6 → nm l d k < 32 ^ k := by
  intro k
  induction k with
  | zero => intro _; exact Nat.one_pos
  | succ k ih =>
    intro h
    have a := ih (by omega)
    have c := hd k (by omega)
    show nm l d k * 32 + dE l d k < 32 ^ (k + 1)
    rw [Nat.pow_succ]
    omega
theorem nm_6 {l : Nat} {d : Nat → Nat} : nm l d 6 = cd6 (dE l d) := by
  show (((((0 * 32 + dE l d 0) * 32 + dE l d 1) * 32 + dE l d 2) * 32 + dE l d 3) * 32 + dE l d 4) * 32 + dE l d 5 = _
  unfold cd6
  omega
theorem m_name {M : zM} {N p e : Nat} {b : Nat → Nat} (h : mB M N b) (ht : tB N b) (h22 : M.1 98 22 = nI e) (h23 : M.1 98 23 = nI p) (hpe : p ≤ e) (he : e ≤ N) (hL : ∀ i, p ≤ i → i < e → 97 ≤ b i ∧ b i ≤ 122) : gX10_name M = some (zI M 98 25 (nI (cd6 (dE (e - p) (ltD b p))))) := by
  have h7 := ht.1
  have hd : ∀ i, i < 6 → dE (e - p) (ltD b p) i ≤ 31 := fun i hi => by
    unfold dE
    split
    · have := hL (p + i) (by omega) (by omega)
      unfold ltD; omega
    · omega
  unfold gX10_name
  rw [zlet_eq, ← nm_6]
  refine zfix_run (fun k => (nI k, zI M 98 25 (nI (nm (e - p) (ltD b p) k)))) 6 (by rw [nI_0]; show _ = (_, zI M 98 25 (nI 0)); rw [nI_0]) (by unfold zFu; omega) ?_ ?_
  · intro k hk rc
    have hlt := nm_lt hd k (by omega)
    have hdk := hd k hk
    unfold gX10_name_L7
    dsimp only
    rw [nI_lit6, if_neg (nI_ge hk (by omega)), zI_at, zI_of (by omega), zI_of (by omega), zI_of (by omega), h22, h23, nI_add, show ((5 : Int32) &&& 31) = nI 5 by decide, nI_shl _ _ (by omega), zlet_eq, zlet_eq, zI_zI, zI_zI, nI_1]
    have key : nm (e - p) (ltD b p) k * 2 ^ 5 ||| dE (e - p) (ltD b p) k = nm (e - p) (ltD b p) (k + 1) := by
      rw [or_add _ _ _ (by omega)]; rfl
    by_cases g : e - p ≤ k
    · rw [if_pos (nI_le (by omega) (by omega)), show (0 : Int32) = nI 0 from nI_z, nI_or]
      have e0 : dE (e - p) (ltD b p) k = 0 := if_neg (by omega)
      rw [e0] at key
      rw [key]
    · have bb := hL (p + k) (by omega) (by omega)
      rw [if_neg (nI_ge (by omega) (by omega)), zg_true (zok_nI (show p + k < 700 by omega) (by omega)), nI_cl (by omega), h.2 (p + k) (by omega), show (97 : Int32) = nI 97 by decide, nI_sub bb.1, nI_1, nI_or]
      have e0 : dE (e - p) (ltD b p) k = b (p + k) - 97 + 1 := by
        unfold dE ltD
        rw [if_pos (by omega)]; omega
      rw [e0] at key
      rw [key]
  · intro rc
    unfold gX10_name_L7
    dsimp only
    rw [nI_lit6, if_pos (nI_le (Nat.le_refl _) (by omega))]
/-- numbers: alike up to 99999, both beyond it else -/
def rn (b : Nat → Nat) (a : Nat) : Nat → Nat
  | 0 => 0
  | j + 1 => if rn b a j ≤ 99999 then 10 * rn b a j + (b (a + j) - 48) else rn b a j
def numR (x y : Nat) : Prop := (x = y ∧ y ≤ 99999) ∨ (99999 < x ∧ x ≤ 1000000 ∧ 99999 < y ∧ y ≤ 999999)
theorem rn_s {b : Nat → Nat} {a j : Nat} : rn b a (j + 1) = if rn b a j ≤ 99999 then 10 * rn b a j + (b (a + j) - 48) else rn b a j := rfl
theorem nv_s {b : Nat → Nat} {a j : Nat} : nv b a (j + 1) = min (nv b a j * 10 + (b (a + j) - 48)) 1000000 := rfl
theorem num_rel {b : Nat → Nat} {a : Nat} : ∀ j, (∀ i, i < j → b (a + i) ≤ 57) → numR (nv b a j) (rn b a j) := by
  intro j
  induction j with
  | zero => intro _; exact Or.inl ⟨rfl, Nat.zero_le _⟩
  | succ j ih =>
    intro h
    have hj := h j (by omega)
    rw [rn_s, nv_s]
    rcases ih (fun i hi => h i (by omega)) with ⟨e1, e2⟩ | ⟨e1, e2, e3, e4⟩
    · rw [if_pos e2, e1]
      by_cases w : 10 * rn b a j + (b (a + j) - 48) ≤ 99999
      · exact Or.inl ⟨by rw [Nat.min_eq_left (by omega)]; omega, w⟩
      · refine Or.inr ⟨?_, Nat.min_le_right _ _, by omega, by omega⟩
        rw [Nat.min_eq_left (by omega)]; omega
    · rw [if_neg (by omega)]
      refine Or.inr ⟨?_, Nat.min_le_right _ _, e3, e4⟩
      rcases Nat.le_total (nv b a j * 10 + (b (a + j) - 48)) 1000000 with w | w
      · rw [Nat.min_eq_left w]; omega
      · rw [Nat.min_eq_right w]; omega
/-- how the reference tells a kind of TOKEN -/
def rSo (K : Nat) : Int32 := if K = 0 then 4 else if K = 1 then 5 else if K = 2 then 1 else if K = 3 then 2 else if K ≤ 6 then 3 else if K ≤ 28 then 0 else 3
def rVa (K : Nat) : Int32 := if 7 ≤ K ∧ K ≤ 28 then nI (wQ (K - 7)) else ([0, 0, 0, 0, 59, 40, 41, 0, 0, 0, 0, 0, 0, 0, 0, 0, 0, 0, 0, 0, 0, 0, 0, 0, 0, 0, 0, 0, 0, 60, 256, 61, 257, 258, 62, 43, 45, 42, 47] : List Int32).getD K 0
def tokR (K : Nat) (cv so rv : Int32) : Prop := so = rSo K ∧ (K = 2 → rv = cv) ∧ (K = 3 → ∃ x y, cv = nI x ∧ rv = nI y ∧ numR x y) ∧ (4 ≤ K → rv = rVa K)
/-- what token() leaves -/
def tokM (M M' : zM) (N : Nat) (b : Nat → Nat) (p : Nat) : Prop := M'.2 = M.2 ∧ (∀ x i, ¬ (x = 98 ∧ 22 ≤ i ∧ i ≤ 25) → M'.1 x i = M.1 x i) ∧ M'.1 98 22 = nI (tkE N b p) ∧ M'.1 98 23 = nI p ∧ tokR (tkK N b p) (tkV N b p) (M'.1 98 24) (M'.1 98 25)
theorem rn_le {b : Nat → Nat} {a : Nat} : ∀ j, (∀ i, i < j → b (a + i) ≤ 255) → rn b a j ≤ 1000197 := by
  intro j
  induction j with
  | zero => intro _; exact Nat.zero_le _
  | succ j ih =>
    intro h
    have hj := h j (by omega)
    have hi := ih (fun i hi => h i (by omega))
    rw [rn_s]
    by_cases w : rn b a j ≤ 99999
    · rw [if_pos w]; omega
    · rw [if_neg w]; exact hi
theorem zI_cm {M : zM} {a i c j : Nat} {x y : Int32} (h : ¬ (a = c ∧ i = j)) : zI (zI M a i x) c j y = zI (zI M c j y) a i x := by
  refine Prod.ext ?_ rfl
  funext p q
  by_cases e : p = c ∧ q = j
  · rw [e.1, e.2, zI_at, zI_of (by omega), zI_at]
  · rw [zI_of e]
    by_cases e2 : p = a ∧ q = i
    · rw [e2.1, e2.2, zI_at, zI_at]
    · rw [zI_of e2, zI_of e2, zI_of e]
theorem m_number {M : zM} {N a : Nat} {b : Nat → Nat} (h : mB M N b) (ht : tB N b) (ha : M.1 98 22 = nI a) (h25 : M.1 98 25 = 0) (hN : a ≤ N) :
    zfix zFu gX10_token_L162 M = some (zI (zI M 98 22 (nI (enP (isDg b) N a))) 98 25 (nI (rn b a (enP (isDg b) N a - a)))) := by
  have h7 := ht.1
  refine zfix_while (isDg b) N a (fun i => zI (zI M 98 22 (nI i)) 98 25 (nI (rn b a (i - a)))) (r := fun e => some (zI (zI M 98 22 (nI e)) 98 25 (nI (rn b a (e - a))))) ?_ hN (by omega) ?_ ?_ ?_
  · rw [Nat.sub_self, zI_same ha, show rn b a 0 = 0 from rfl, nI_0, zI_same h25]
  · intro i h1 h2 hp rc
    have hp' : 48 ≤ b i ∧ b i ≤ 57 := of_decide_eq_true hp
    have hc : mB (zI (zI M 98 22 (nI i)) 98 25 (nI (rn b a (i - a)))) N b := (h.put (by omega)).put (by omega)
    have hpk : gX10_here (zI (zI M 98 22 (nI i)) 98 25 (nI (rn b a (i - a)))) = some (nI (b i)) := by
      rw [m_here hc ht (a := i) (by rw [zI_of (by omega), zI_at]) (by omega)]; unfold pkI; rw [if_pos h2]
    have hbd : rn b a (i - a) ≤ 1000197 := rn_le _ (fun j hj => ht.2 _ (by omega))
    have hst : rn b a (i + 1 - a) = if rn b a (i - a) ≤ 99999 then 10 * rn b a (i - a) + (b i - 48) else rn b a (i - a) := by
      rw [show i + 1 - a = (i - a) + 1 by omega, rn_s, show a + (i - a) = i by omega]
    have fin : ∀ y : Nat, y = rn b a (i + 1 - a) → gX10_token_J204 (nI y) rc (zI (zI M 98 22 (nI i)) 98 25 (nI (rn b a (i - a)))) = rc (zI (zI M 98 22 (nI (i + 1))) 98 25 (nI (rn b a (i + 1 - a)))) := fun y hy => by
      unfold gX10_token_J204
      rw [zlet_eq, zlet_eq, zI_zI, zI_of (by omega), zI_at, nI_1, zI_cm (by omega), zI_zI, hy]
    unfold gX10_token_L162
    rw [zcI_some hpk, zcI_some (isD_m (ht.2 i h2)), decide_eq_true hp', if_neg (show ¬ b2i true = 0 by decide), zI_at]
    by_cases w : rn b a (i - a) ≤ 99999
    · rw [if_pos (show nI (rn b a (i - a)) ≤ 99999 from nI_le (b := 99999) w (by omega)), zcI_some hpk]
      have e : ((10 * nI (rn b a (i - a))) + nI (b i)) - 48 = nI (10 * rn b a (i - a) + b i - 48) := by
        rw [show (10 : Int32) = nI 10 by decide, show (48 : Int32) = nI 48 by decide, nI_mul', nI_add, nI_sub (by omega)]
      rw [e]
      refine fin _ ?_
      rw [hst, if_pos w]; omega
    · rw [if_neg (show ¬ nI (rn b a (i - a)) ≤ 99999 from nI_ge (a := 99999) (by omega) (by omega))]
      refine fin _ ?_
      rw [hst, if_neg w]
  · intro i h1 h2 hp rc
    have hp' : ¬ (48 ≤ b i ∧ b i ≤ 57) := of_decide_eq_false hp
    have hc : mB (zI (zI M 98 22 (nI i)) 98 25 (nI (rn b a (i - a)))) N b := (h.put (by omega)).put (by omega)
    have hpk : gX10_here (zI (zI M 98 22 (nI i)) 98 25 (nI (rn b a (i - a)))) = some (nI (b i)) := by
      rw [m_here hc ht (a := i) (by rw [zI_of (by omega), zI_at]) (by omega)]; unfold pkI; rw [if_pos h2]
    unfold gX10_token_L162
    rw [zcI_some hpk, zcI_some (isD_m (ht.2 i h2)), decide_eq_false hp', if_pos (show b2i false = 0 by decide)]
  · intro rc
    have hc : mB (zI (zI M 98 22 (nI N)) 98 25 (nI (rn b a (N - a)))) N b := (h.put (by omega)).put (by omega)
    have hpk : gX10_here (zI (zI M 98 22 (nI N)) 98 25 (nI (rn b a (N - a)))) = some (-1) := by
      rw [m_here hc ht (a := N) (by rw [zI_of (by omega), zI_at]) (by omega)]; unfold pkI; rw [if_neg (by omega)]
    unfold gX10_token_L162
    rw [zcI_some hpk, zcI_some (show gX10_isDigit (-1) _ = some 0 by unfold gX10_isDigit; rw [if_pos (by decide)]), if_pos rfl]
theorem m_J76 {M : zM} {N a c : Nat} {b : Nat → Nat} {y : Int32} (h : mB M N b) (ht : tB N b) (hN : a < N) (hc : c ≤ 255) (h22 : M.1 98 22 = nI (a + 1)) :
    gX10_sign_J76 (nI c) y M = some (if c = 60 ∧ pkI N b (a + 1) = 61 then zI (zI (zI M 98 24 y) 98 25 256) 98 22 (nI (a + 2)) else if c = 60 ∧ pkI N b (a + 1) = 62 then zI (zI (zI M 98 24 y) 98 25 257) 98 22 (nI (a + 2)) else if c = 62 ∧ pkI N b (a + 1) = 61 then zI (zI (zI M 98 24 y) 98 25 258) 98 22 (nI (a + 2)) else zI (zI M 98 24 y) 98 25 (nI c)) := by
  have h7 := ht.1
  have hh : ∀ v, gX10_here (zI (zI M 98 24 y) 98 25 v) = some (pkI N b (a + 1)) := fun v => m_here ((h.put (by omega)).put (by omega)) ht (by rw [zI_of (by omega), zI_of (by omega)]; exact h22) (by omega)
  have big : ∀ v : Int32, ¬ v < 256 → gX10_sign_J150 (zI (zI M 98 24 y) 98 25 v) = some (zI (zI (zI M 98 24 y) 98 25 v) 98 22 (nI (a + 2))) := fun v hv => by
    unfold gX10_sign_J150
    rw [zI_at, if_neg hv, zlet_eq, zI_of (by omega), zI_of (by omega), h22, nI_1]
  have sm : gX10_sign_J150 (zI (zI M 98 24 y) 98 25 (nI c)) = some (zI (zI M 98 24 y) 98 25 (nI c)) := by
    unfold gX10_sign_J150
    rw [zI_at, if_pos (by rw [show (256 : Int32) = nI 256 by decide]; exact (nI_lt_iff (by omega) (by omega)).mpr (by omega))]
  have e60 : (nI c = 60) = (c = 60) := nI_eqs (b := 60) (by omega) (by omega)
  have e62 : (nI c = 62) = (c = 62) := nI_eqs (b := 62) (by omega) (by omega)
  unfold gX10_sign_J76
  rw [zlet_eq, zlet_eq]
  by_cases c60 : c = 60
  · rw [if_pos (by rw [e60]; exact c60), zcI_some (hh _)]
    have n62 : ¬ nI c = 62 := by rw [e62]; omega
    by_cases x61 : pkI N b (a + 1) = 61
    · rw [if_pos x61, zlet_eq, zI_zI]
      unfold gX10_sign_J106
      rw [if_pos (by rw [e60]; exact c60), zcI_some (hh _), if_neg (by rw [x61]; decide)]
      unfold gX10_sign_J128
      rw [if_neg n62, big _ (by decide), if_pos ⟨c60, x61⟩]
    · rw [if_neg x61, if_neg (fun w => x61 w.2)]
      unfold gX10_sign_J106
      rw [if_pos (by rw [e60]; exact c60), zcI_some (hh _)]
      unfold gX10_sign_J128
      by_cases x62 : pkI N b (a + 1) = 62
      · rw [if_pos x62, zlet_eq, zI_zI, if_neg n62, big _ (by decide), if_pos ⟨c60, x62⟩]
      · rw [if_neg x62, if_neg n62, sm, if_neg (fun w => x62 w.2), if_neg (fun w => x61 w.2)]
  · rw [if_neg (by rw [e60]; exact c60), if_neg (fun w => c60 w.1), if_neg (fun w => c60 w.1)]
    unfold gX10_sign_J106
    rw [if_neg (by rw [e60]; exact c60)]
    unfold gX10_sign_J128
    by_cases c62 : c = 62
    · rw [if_pos (by rw [e62]; exact c62), zcI_some (hh _)]
      by_cases x61 : pkI N b (a + 1) = 61
      · rw [if_pos x61, zlet_eq, zI_zI, big _ (by decide), if_pos ⟨c62, x61⟩]
      · rw [if_neg x61, sm, if_neg (fun w => x61 w.2)]
    · rw [if_neg (by rw [e62]; exact c62), sm, if_neg (fun w => c62 w.1)]
/-- what sign() leaves -/
theorem m_sign {M : zM} {N a c : Nat} {b : Nat → Nat} (h : mB M N b) (ht : tB N b) (ha : M.1 98 22 = nI a) (hN : a < N) (hc : c ≤ 255) :
    ∃ M', gX10_sign (nI c) M = some M' ∧ M'.2 = M.2 ∧ (∀ x i, ¬ (x = 98 ∧ (i = 22 ∨ i = 24 ∨ i = 25)) → M'.1 x i = M.1 x i) ∧ M'.1 98 22 = nI (a + (sgK c (pkI N b (a + 1))).2) ∧ tokR (sgK c (pkI N b (a + 1))).1 0 (M'.1 98 24) (M'.1 98 25) := by
  have h7 := ht.1
  have hc1 := h.put (i := 22) (x := nI (a + 1)) (by omega)
  have J := fun y => m_J76 (y := y) hc1 ht hN hc zI_at
  have fr : ∀ (y v w : Int32) (x i : Nat), ¬ (x = 98 ∧ (i = 22 ∨ i = 24 ∨ i = 25)) → (zI (zI (zI (zI M 98 22 (nI (a + 1))) 98 24 y) 98 25 v) 98 22 w).1 x i = M.1 x i := fun y v w x i hx => by rw [zI_of (by omega), zI_of (by omega), zI_of (by omega), zI_of (by omega)]
  have fs : ∀ (y v : Int32) (x i : Nat), ¬ (x = 98 ∧ (i = 22 ∨ i = 24 ∨ i = 25)) → (zI (zI (zI M 98 22 (nI (a + 1))) 98 24 y) 98 25 v).1 x i = M.1 x i := fun y v x i hx => by rw [zI_of (by omega), zI_of (by omega), zI_of (by omega)]
  have two : ∀ (y v : Int32) (K : Nat), gX10_sign (nI c) M = gX10_sign_J76 (nI c) y (zI M 98 22 (nI (a + 1))) → gX10_sign_J76 (nI c) y (zI M 98 22 (nI (a + 1))) = some (zI (zI (zI (zI M 98 22 (nI (a + 1))) 98 24 y) 98 25 v) 98 22 (nI (a + 2))) → sgK c (pkI N b (a + 1)) = (K, 2) → 4 ≤ K → y = rSo K → v = rVa K → ∃ M', gX10_sign (nI c) M = some M' ∧ M'.2 = M.2 ∧ (∀ x i, ¬ (x = 98 ∧ (i = 22 ∨ i = 24 ∨ i = 25)) → M'.1 x i = M.1 x i) ∧ M'.1 98 22 = nI (a + (sgK c (pkI N b (a + 1))).2) ∧ tokR (sgK c (pkI N b (a + 1))).1 0 (M'.1 98 24) (M'.1 98 25) := fun y v K e1 e2 e3 e4 e5 e6 => by
    refine ⟨_, e1.trans e2, rfl, fr y v _, ?_, ?_⟩
    · rw [zI_at, e3]
    · rw [e3, zI_of (by omega), zI_of (by omega), zI_at, zI_of (by omega), zI_at]
      exact ⟨e5, fun w => by dsimp only at w; omega, fun w => by dsimp only at w; omega, fun _ => e6⟩
  have one : ∀ (y v : Int32) (K : Nat), gX10_sign (nI c) M = gX10_sign_J76 (nI c) y (zI M 98 22 (nI (a + 1))) → gX10_sign_J76 (nI c) y (zI M 98 22 (nI (a + 1))) = some (zI (zI (zI M 98 22 (nI (a + 1))) 98 24 y) 98 25 v) → sgK c (pkI N b (a + 1)) = (K, 1) → K ≠ 2 → K ≠ 3 → y = rSo K → (4 ≤ K → v = rVa K) → ∃ M', gX10_sign (nI c) M = some M' ∧ M'.2 = M.2 ∧ (∀ x i, ¬ (x = 98 ∧ (i = 22 ∨ i = 24 ∨ i = 25)) → M'.1 x i = M.1 x i) ∧ M'.1 98 22 = nI (a + (sgK c (pkI N b (a + 1))).2) ∧ tokR (sgK c (pkI N b (a + 1))).1 0 (M'.1 98 24) (M'.1 98 25) := fun y v K e1 e2 e3 e4 e4' e5 e6 => by
    refine ⟨_, e1.trans e2, rfl, fs y v, ?_, ?_⟩
    · rw [zI_of (by omega), zI_of (by omega), zI_at, e3]
    · rw [e3, zI_of (by omega), zI_at, zI_at]
      exact ⟨e5, fun w => absurd w e4, fun w => absurd w e4', e6⟩
  have hg : ∀ k : Nat, k ∈ [59, 40, 41, 43, 45, 42, 47, 60, 61, 62] → c = k → gX10_sign (nI c) M = gX10_sign_J76 (nI c) 3 (zI M 98 22 (nI (a + 1))) := fun k hk e => by
    subst e
    unfold gX10_sign gX10_sign_J71
    rw [zlet_eq, ha, nI_1]
    simp only [List.mem_cons, List.not_mem_nil, or_false] at hk
    rcases hk with e | e | e | e | e | e | e | e | e | e <;> (subst e; rfl)
  have pl : ∀ (k K : Nat), k ∈ [59, 40, 41, 43, 45, 42, 47, 61] → c = k → sgK c (pkI N b (a + 1)) = (K, 1) → 4 ≤ K → (3 : Int32) = rSo K → nI k = rVa K → ∃ M', gX10_sign (nI c) M = some M' ∧ M'.2 = M.2 ∧ (∀ x i, ¬ (x = 98 ∧ (i = 22 ∨ i = 24 ∨ i = 25)) → M'.1 x i = M.1 x i) ∧ M'.1 98 22 = nI (a + (sgK c (pkI N b (a + 1))).2) ∧ tokR (sgK c (pkI N b (a + 1))).1 0 (M'.1 98 24) (M'.1 98 25) := fun k K hk e e3 e4 e5 e6 => by
    have hn : c ≠ 60 ∧ c ≠ 62 := by
      simp only [List.mem_cons, List.not_mem_nil, or_false] at hk
      omega
    have hk' : k ∈ [59, 40, 41, 43, 45, 42, 47, 60, 61, 62] := by
      simp only [List.mem_cons, List.not_mem_nil, or_false] at hk ⊢
      omega
    refine one 3 (nI c) K (hg k hk' e) ?_ e3 (by omega) (by omega) e5 (fun _ => by rw [e]; exact e6)
    rw [J, if_neg (fun w => hn.1 w.1), if_neg (fun w => hn.1 w.1), if_neg (fun w => hn.2 w.1)]
  by_cases h40 : c = 40
  · exact pl 40 5 (by decide) h40 (by rw [h40]; rfl) (by omega) (by decide) (by decide)
  by_cases h41 : c = 41
  · exact pl 41 6 (by decide) h41 (by rw [h41]; rfl) (by omega) (by decide) (by decide)
  by_cases h42 : c = 42
  · exact pl 42 37 (by decide) h42 (by rw [h42]; rfl) (by omega) (by decide) (by decide)
  by_cases h43 : c = 43
  · exact pl 43 35 (by decide) h43 (by rw [h43]; rfl) (by omega) (by decide) (by decide)
  by_cases h45 : c = 45
  · exact pl 45 36 (by decide) h45 (by rw [h45]; rfl) (by omega) (by decide) (by decide)
  by_cases h47 : c = 47
  · exact pl 47 38 (by decide) h47 (by rw [h47]; rfl) (by omega) (by decide) (by decide)
  by_cases h59 : c = 59
  · exact pl 59 4 (by decide) h59 (by rw [h59]; rfl) (by omega) (by decide) (by decide)
  by_cases h61 : c = 61
  · exact pl 61 31 (by decide) h61 (by rw [h61]; rfl) (by omega) (by decide) (by decide)
  by_cases h60 : c = 60
  · have g := hg 60 (by decide) h60
    by_cases x61 : pkI N b (a + 1) = 61
    · exact two 3 256 30 g (by rw [J, if_pos ⟨h60, x61⟩]) (by rw [h60, x61]; rfl) (by omega) (by decide) (by decide)
    by_cases x62 : pkI N b (a + 1) = 62
    · exact two 3 257 32 g (by rw [J, if_neg (fun w => x61 w.2), if_pos ⟨h60, x62⟩]) (by rw [h60, x62]; rfl) (by omega) (by decide) (by decide)
    · refine one 3 (nI c) 29 g (by rw [J, if_neg (fun w => x61 w.2), if_neg (fun w => x62 w.2), if_neg (fun w => x61 w.2)]) ?_ (by omega) (by omega) (by decide) (fun _ => by rw [h60]; decide)
      rw [h60]
      show (if pkI N b (a + 1) = 61 then (30, 2) else if pkI N b (a + 1) = 62 then (32, 2) else (29, 1)) = _
      rw [if_neg x61, if_neg x62]
  by_cases h62 : c = 62
  · have g := hg 62 (by decide) h62
    by_cases x61 : pkI N b (a + 1) = 61
    · exact two 3 258 33 g (by rw [J, if_neg (fun w => h60 w.1), if_neg (fun w => h60 w.1), if_pos ⟨h62, x61⟩]) (by rw [h62, x61]; rfl) (by omega) (by decide) (by decide)
    · refine one 3 (nI c) 34 g (by rw [J, if_neg (fun w => h60 w.1), if_neg (fun w => h60 w.1), if_neg (fun w => x61 w.2)]) ?_ (by omega) (by omega) (by decide) (fun _ => by rw [h62]; decide)
      rw [h62]
      show (if pkI N b (a + 1) = 61 then (33, 2) else (34, 1)) = _
      rw [if_neg x61]
  · have ne : ∀ k : Nat, k < 256 → c ≠ k → ¬ nI c = nI k := fun k hk w => by rw [nI_eqs (by omega) (by omega)]; exact w
    have g : gX10_sign (nI c) M = gX10_sign_J76 (nI c) 5 (zI M 98 22 (nI (a + 1))) := by
      unfold gX10_sign
      rw [zlet_eq, ha, nI_1, if_neg (show ¬ nI c = 59 from ne 59 (by omega) h59), if_neg (show ¬ nI c = 40 from ne 40 (by omega) h40), if_neg (show ¬ nI c = 41 from ne 41 (by omega) h41), if_neg (show ¬ nI c = 43 from ne 43 (by omega) h43), if_neg (show ¬ nI c = 45 from ne 45 (by omega) h45), if_neg (show ¬ nI c = 42 from ne 42 (by omega) h42), if_neg (show ¬ nI c = 47 from ne 47 (by omega) h47), if_neg (show ¬ nI c = 60 from ne 60 (by omega) h60), if_neg (show ¬ nI c = 61 from ne 61 (by omega) h61), if_neg (show ¬ nI c = 62 from ne 62 (by omega) h62)]
    refine one 5 (nI c) 1 g (by rw [J, if_neg (fun w => h60 w.1), if_neg (fun w => h60 w.1), if_neg (fun w => h62 w.1)]) ?_ (by omega) (by omega) (by decide) (fun w => by omega)
    unfold sgK
    rw [if_neg h59, if_neg h40, if_neg h41, if_neg h43, if_neg h45, if_neg h42, if_neg h47, if_neg h61, if_neg h60, if_neg h62]
def gTk (s : zM) : Option zM :=
  zlet (zI s 98 23 (s.1 98 22)) (fun M7_ => zcI (gX10_here M7_) (fun v9_ => (if v9_ = (-1) then zlet (zI M7_ 98 24 4) (fun M45_ => some M45_)
  else zcI (gX10_isSmall v9_ M7_) (fun v11_ => (if v11_ = 0 then zcI (gX10_isDigit v9_ M7_) (fun v13_ => (if v13_ = 0 then zcV (gX10_sign v9_ M7_) (fun M15_ => some M15_)
  else zlet (zI M7_ 98 24 2) (fun M17_ => zlet (zI M17_ 98 25 0) (fun M19_ => zfix zFu (gX10_token_L162 ) M19_))))
  else zfix zFu (gX10_token_L64 ) M7_)))))
def gWd (s : zM) : Option zM := zcI (gX10_word s) (fun v35_ => zlet (zI s 98 25 v35_) (fun M37_ => (if (M37_.1 98 25) = (-1) then (if ((M37_.1 98 22) - (M37_.1 98 23)) ≤ 6 then gX10_token_J127 1 M37_
  else gX10_token_J127 5 M37_)
  else gX10_token_J127 0 M37_)))
theorem m_loop64 {M : zM} {N p : Nat} {b : Nat → Nat} (h : mB M N b) (ht : tB N b) (h22 : M.1 98 22 = nI p) (hN : p ≤ N) : zfix zFu gX10_token_L64 M = gWd (zI M 98 22 (nI (enP (isLt b) N p))) := by
  have h7 := ht.1
  refine zfix_while (isLt b) N p (fun i => zI M 98 22 (nI i)) (r := fun e => gWd (zI M 98 22 (nI e))) (zI_same h22).symm hN (by omega) ?_ ?_ ?_
  · intro i h1 h2 hp rc
    have hp' : 97 ≤ b i ∧ b i ≤ 122 := of_decide_eq_true hp
    have hpk : gX10_here (zI M 98 22 (nI i)) = some (nI (b i)) := by
      rw [m_here (h.put (by omega)) ht (a := i) zI_at (by omega)]; unfold pkI; rw [if_pos h2]
    unfold gX10_token_L64
    rw [zcI_some hpk, zcI_some (isS_m (ht.2 i h2)), decide_eq_true hp', if_neg (show ¬ b2i true = 0 by decide), zlet_eq, zI_at, zI_zI, nI_1]
  · intro i h1 h2 hp rc
    have hp' : ¬ (97 ≤ b i ∧ b i ≤ 122) := of_decide_eq_false hp
    have hpk : gX10_here (zI M 98 22 (nI i)) = some (nI (b i)) := by
      rw [m_here (h.put (by omega)) ht (a := i) zI_at (by omega)]; unfold pkI; rw [if_pos h2]
    unfold gX10_token_L64
    rw [zcI_some hpk, zcI_some (isS_m (ht.2 i h2)), decide_eq_false hp', if_pos (show b2i false = 0 by decide)]
    rfl
  · intro rc
    have hpk : gX10_here (zI M 98 22 (nI N)) = some (-1) := by
      rw [m_here (h.put (by omega)) ht (a := N) zI_at (by omega)]; unfold pkI; rw [if_neg (by omega)]
    unfold gX10_token_L64
    rw [zcI_some hpk, zcI_some (show gX10_isSmall (-1) _ = some 0 by unfold gX10_isSmall; rw [if_pos (by decide)]), if_pos rfl]
    rfl
/-- a word: the class's kind and the reference's -/
def wdR (M M' : zM) (K : Nat) (v : Int32) : Prop := M'.2 = M.2 ∧ (∀ x i, ¬ (x = 98 ∧ (i = 24 ∨ i = 25)) → M'.1 x i = M.1 x i) ∧ tokR K v (M'.1 98 24) (M'.1 98 25)
theorem wdR_1 {M : zM} {v y cv : Int32} {K : Nat} (h : tokR K cv y v) : wdR M (zI (zI M 98 25 v) 98 24 y) K cv := by
  refine ⟨rfl, fun x i hx => by rw [zI_of (by omega), zI_of (by omega)], ?_⟩
  rw [zI_at, zI_of (by omega), zI_at]
  exact h
theorem wdR_2 {M : zM} {v w y cv : Int32} {K : Nat} (h : tokR K cv y w) : wdR M (zI (zI (zI M 98 25 v) 98 24 y) 98 25 w) K cv := by
  refine ⟨rfl, fun x i hx => by rw [zI_of (by omega), zI_of (by omega), zI_of (by omega)], ?_⟩
  rw [zI_of (by omega), zI_at, zI_at]
  exact h
theorem J127_0 {M : zM} {y : Int32} (h : ¬ y = 1) : gX10_token_J127 y M = some (zI M 98 24 y) := by
  unfold gX10_token_J127
  rw [zlet_eq, zI_at, if_neg h]
theorem J127_1 {M M' : zM} (h : gX10_name (zI M 98 24 1) = some M') : gX10_token_J127 1 M = some M' := by
  unfold gX10_token_J127
  rw [zlet_eq, zI_at, if_pos rfl, h]
  rfl
theorem gWd_eq {M : zM} {N p e : Nat} {b : Nat → Nat} (h : mB M N b) (ht : tB N b) (h22 : M.1 98 22 = nI e) (h23 : M.1 98 23 = nI p) (hpe : p ≤ e) (he : e ≤ N) (hL : ∀ i, p ≤ i → i < e → 97 ≤ b i ∧ b i ≤ 122) :
    gWd M = if oN (ffst (isWd (e - p) (ltD b p)) 22) = -1 then (if e - p ≤ 6 then gX10_token_J127 1 (zI M 98 25 (oN (ffst (isWd (e - p) (ltD b p)) 22))) else gX10_token_J127 5 (zI M 98 25 (oN (ffst (isWd (e - p) (ltD b p)) 22)))) else gX10_token_J127 0 (zI M 98 25 (oN (ffst (isWd (e - p) (ltD b p)) 22))) := by
  have h7 := ht.1
  unfold gWd
  rw [zcI_some (m_word h ht h22 h23 hpe he hL), zlet_eq, zI_at, zI_of (by omega), zI_of (by omega), h22, h23, nI_sub hpe, nI_lit6]
  by_cases l6 : e - p ≤ 6
  · rw [if_pos (nI_le l6 (by omega)), if_pos l6]
  · rw [if_neg (nI_ge (by omega) (by omega)), if_neg l6]
theorem tokR_2 {x : Int32} : tokR 2 x 1 x := ⟨by decide, fun _ => rfl, fun w => absurd w (by decide), fun w => absurd w (by decide)⟩
theorem tokR_1 {x y : Int32} : tokR 1 x 5 y := ⟨by decide, fun w => absurd w (by decide), fun w => absurd w (by decide), fun w => absurd w (by decide)⟩
theorem rSo_w {n : Nat} (h : n < 22) : rSo (7 + n) = 0 := by
  unfold rSo
  rw [if_neg (by omega), if_neg (by omega), if_neg (by omega), if_neg (by omega), if_neg (by omega), if_pos (by omega)]
theorem rVa_w {n : Nat} (h : n < 22) : rVa (7 + n) = nI (wQ n) := by
  unfold rVa
  rw [if_pos (by omega), show 7 + n - 7 = n by omega]
theorem tokR_w {n : Nat} {x : Int32} (h : n < 22) : tokR (7 + n) x 0 (nI (wQ n)) :=
  ⟨(rSo_w h).symm, fun w => by omega, fun w => by omega, fun _ => (rVa_w h).symm⟩
theorem wdK_some {b : Nat → Nat} {p l n : Nat} (l6 : l ≤ 6) (ee : ffst (fun n => zc2 n == nI (lw b p l)) 22 = some n) : wdK b p l = 7 + n := by
  unfold wdK
  rw [if_pos l6, ee]
theorem wdK_none {b : Nat → Nat} {p l : Nat} (l6 : l ≤ 6) (ee : ffst (fun n => zc2 n == nI (lw b p l)) 22 = none) : wdK b p l = 2 := by
  unfold wdK
  rw [if_pos l6, ee]
theorem wdK_long {b : Nat → Nat} {p l : Nat} (l6 : ¬ l ≤ 6) : wdK b p l = 1 := by
  unfold wdK
  rw [if_neg l6]
theorem lw_6 {b : Nat → Nat} {p l : Nat} (l6 : l ≤ 6) : lw b p l = cd6 (dE l (ltD b p)) := by
  unfold lw
  rw [Nat.min_eq_left l6]
theorem isWd_long {l : Nat} {d : Nat → Nat} (l6 : ¬ l ≤ 6) : ffst (isWd l d) 22 = none := ffst_all (fun k hk => by
  have := (wd_at hk).2.1
  unfold isWd
  rw [decide_eq_false (by omega), Bool.false_and])
theorem m_wd {M : zM} {N p e : Nat} {b : Nat → Nat} (h : mB M N b) (ht : tB N b) (h22 : M.1 98 22 = nI e) (h23 : M.1 98 23 = nI p) (hpe : p ≤ e) (he : e ≤ N) (hL : ∀ i, p ≤ i → i < e → 97 ≤ b i ∧ b i ≤ 122) :
    ∃ M', gWd M = some M' ∧ wdR M M' (wdK b p (e - p)) (if e - p ≤ 6 then nI (lw b p (e - p)) else 0) := by
  have hd : ∀ i, i < e - p → 1 ≤ ltD b p i ∧ ltD b p i ≤ 26 := fun i hi => by
    have := hL (p + i) (by omega) (by omega)
    unfold ltD; omega
  rw [gWd_eq h ht h22 h23 hpe he hL]
  by_cases l6 : e - p ≤ 6
  · have hw := word_c l6 hd
    have hl := lw_6 (b := b) (p := p) l6
    rw [if_pos l6, if_pos l6]
    cases ee : ffst (fun n => zc2 n == nI (cd6 (dE (e - p) (ltD b p)))) 22 with
    | none =>
      rw [ee] at hw
      have e1 : oN (ffst (isWd (e - p) (ltD b p)) 22) = -1 := by rw [hw]; rfl
      rw [e1, if_pos rfl, wdK_none l6 (by rw [hl]; exact ee), hl]
      have hm : mB (zI (zI M 98 25 (-1)) 98 24 1) N b := (h.put (by omega)).put (by omega)
      exact ⟨_, J127_1 (m_name hm ht (by rw [zI_of (by omega), zI_of (by omega)]; exact h22) (by rw [zI_of (by omega), zI_of (by omega)]; exact h23) hpe he hL), wdR_2 tokR_2⟩
    | some n =>
      obtain ⟨h1, h2, h3⟩ := ffst_some ee
      rw [ee] at hw
      have e1 : oN (ffst (isWd (e - p) (ltD b p)) 22) = nI (wQ n) := by rw [hw]; rfl
      have hq := (wc_at h1).2.1
      rw [e1, if_neg (nI_ne_m1 (by omega)), wdK_some l6 (by rw [hl]; exact ee)]
      exact ⟨_, J127_0 (by decide), wdR_1 (tokR_w h1)⟩
  · have e1 : oN (ffst (isWd (e - p) (ltD b p)) 22) = -1 := by rw [isWd_long l6]; rfl
    rw [e1, if_pos rfl, if_neg l6, if_neg l6, wdK_long l6]
    exact ⟨_, J127_0 (by decide), wdR_1 tokR_1⟩
theorem m_tkr {s : zM} {N p : Nat} {b : Nat → Nat} (h : mB s N b) (ht : tB N b) (h22 : s.1 98 22 = nI p) (hp : p ≤ N) : ∃ M', gTk s = some M' ∧ tokM s M' N b p := by
  have h7 := ht.1
  unfold gTk tokM tkE tkK tkV
  rw [zlet_eq, h22]
  have hc : mB (zI s 98 23 (nI p)) N b := h.put (by omega)
  have hc22 : (zI s 98 23 (nI p)).1 98 22 = nI p := by rw [zI_of (by omega)]; exact h22
  rw [zcI_some (m_here hc ht hc22 hp)]
  unfold pkI
  by_cases hpN : p < N
  · rw [if_pos hpN, if_pos hpN, if_pos hpN, if_pos hpN, if_neg (show ¬ nI (b p) = -1 from nI_ne_m1 (by have := ht.2 p hpN; omega)), zcI_some (isS_m (ht.2 p hpN))]
    by_cases hl : 97 ≤ b p ∧ b p ≤ 122
    · have hl' : isLt b p = true := decide_eq_true hl
      rw [decide_eq_true hl, if_neg (show ¬ b2i true = 0 by decide), m_loop64 hc ht hc22 hp, if_pos hl', if_pos hl', if_pos hl']
      obtain ⟨M', g1, g2, g3, g4⟩ := m_wd (p := p) (e := enP (isLt b) N p) (M := zI (zI s 98 23 (nI p)) 98 22 (nI (enP (isLt b) N p))) (hc.put (by omega)) ht zI_at (by rw [zI_of (by omega), zI_at]) enP_ge (enP_le hp) (fun i h1 h2 => of_decide_eq_true (enP_in h1 h2))
      refine ⟨M', g1, g2, ?_, ?_, ?_, g4⟩
      · intro x i hx
        rw [g3 x i (by omega), zI_of (by omega), zI_of (by omega)]
      · rw [g3 _ _ (by omega), zI_at]
      · rw [g3 _ _ (by omega), zI_of (by omega), zI_at]
    · have hl' : isLt b p = false := decide_eq_false hl
      have nl : ¬ isLt b p = true := by rw [hl']; decide
      rw [decide_eq_false hl, if_pos (show b2i false = 0 from rfl), zcI_some (isD_m (ht.2 p hpN)), if_neg nl, if_neg nl, if_neg nl]
      by_cases hdg : 48 ≤ b p ∧ b p ≤ 57
      · have hd' : isDg b p = true := decide_eq_true hdg
        rw [decide_eq_true hdg, if_neg (show ¬ b2i true = 0 by decide), zlet_eq, zlet_eq, if_pos hd', if_pos hd', if_pos hd']
        have hm : mB (zI (zI (zI s 98 23 (nI p)) 98 24 2) 98 25 0) N b := (hc.put (by omega)).put (by omega)
        refine ⟨_, m_number hm ht (by rw [zI_of (by omega), zI_of (by omega)]; exact hc22) zI_at hp, rfl, ?_, ?_, ?_, ?_⟩
        · intro x i hx
          rw [zI_of (by omega), zI_of (by omega), zI_of (by omega), zI_of (by omega), zI_of (by omega)]
        · rw [zI_of (by omega), zI_at]
        · rw [zI_of (by omega), zI_of (by omega), zI_of (by omega), zI_of (by omega), zI_at]
        · rw [zI_of (by omega), zI_of (by omega), zI_of (by omega), zI_at, zI_at]
          refine ⟨by decide, fun w => by omega, fun _ => ⟨_, _, rfl, rfl, num_rel _ (fun i hi => ?_)⟩, fun w => by omega⟩
          have : 48 ≤ b (p + i) ∧ b (p + i) ≤ 57 := of_decide_eq_true (enP_in (p := isDg b) (N := N) (a := p) (by omega) (by omega))
          omega
      · have hd' : isDg b p = false := decide_eq_false hdg
        have nd : ¬ isDg b p = true := by rw [hd']; decide
        rw [decide_eq_false hdg, if_pos (show b2i false = 0 from rfl), if_neg nd, if_neg nd, if_neg nd]
        obtain ⟨M', g1, g2, g3, g4, g5⟩ := m_sign (c := b p) hc ht hc22 hpN (ht.2 p hpN)
        refine ⟨M', by rw [g1]; rfl, g2, ?_, g4, ?_, g5⟩
        · intro x i hx
          rw [g3 x i (by omega), zI_of (by omega)]
        · rw [g3 _ _ (by omega), zI_at]
  · have hpe : p = N := by omega
    rw [if_neg hpN, if_neg hpN, if_neg hpN, if_neg hpN, if_pos rfl, zlet_eq]
    refine ⟨_, rfl, rfl, ?_, ?_, ?_, ?_⟩
    · intro x i hx
      rw [zI_of (by omega), zI_of (by omega)]
    · rw [zI_of (by omega)]; exact hc22
    · rw [zI_of (by omega), zI_at]
    · rw [zI_at]
      exact ⟨by decide, fun w => by omega, fun w => by omega, fun w => by omega⟩
theorem m_token {M : zM} {N a : Nat} {b : Nat → Nat} (h : mB M N b) (ht : tB N b) (h22 : M.1 98 22 = nI a) (ha : a ≤ N) : ∃ M', gX10_token M = some M' ∧ tokM M M' N b (enP (isBk b) N a) := by
  have h7 := ht.1
  have e : gX10_token M = gTk (zI M 98 22 (nI (enP (isBk b) N a))) := by
    unfold gX10_token
    refine zfix_while (isBk b) N a (fun i => zI M 98 22 (nI i)) (r := fun e => gTk (zI M 98 22 (nI e))) (zI_same h22).symm ha (by omega) ?_ ?_ ?_
    · intro i h1 h2 hp rc
      have hp' : b i = 32 ∨ b i = 10 := of_decide_eq_true hp
      have hpk : gX10_here (zI M 98 22 (nI i)) = some (nI (b i)) := by
        rw [m_here (h.put (by omega)) ht (a := i) zI_at (by omega)]; unfold pkI; rw [if_pos h2]
      have hJ : gX10_token_J18 rc (zI M 98 22 (nI i)) = rc (zI M 98 22 (nI (i + 1))) := by
        unfold gX10_token_J18
        rw [zlet_eq, zI_at, zI_zI, nI_1]
      unfold gX10_token_L0
      have hb := ht.2 i h2
      rw [zcI_some hpk]
      by_cases e10 : b i = 10
      · rw [if_pos (show nI (b i) = 10 by rw [e10]; rfl), hJ]
      · rw [if_neg (show ¬ nI (b i) = 10 from fun w => e10 ((nI_eqs (by omega) (by omega)).mp (show nI (b i) = nI 10 from w))), zcI_some hpk, if_pos (show nI (b i) = 32 by rw [show b i = 32 by omega]; rfl), hJ]
    · intro i h1 h2 hp rc
      have hp' : ¬ (b i = 32 ∨ b i = 10) := of_decide_eq_false hp
      have hb := ht.2 i h2
      have hpk : gX10_here (zI M 98 22 (nI i)) = some (nI (b i)) := by
        rw [m_here (h.put (by omega)) ht (a := i) zI_at (by omega)]; unfold pkI; rw [if_pos h2]
      unfold gX10_token_L0
      rw [zcI_some hpk, if_neg (show ¬ nI (b i) = 10 from fun w => hp' (Or.inr ((nI_eqs (by omega) (by omega)).mp (show nI (b i) = nI 10 from w)))), zcI_some hpk, if_neg (show ¬ nI (b i) = 32 from fun w => hp' (Or.inl ((nI_eqs (by omega) (by omega)).mp (show nI (b i) = nI 32 from w))))]
      rfl
    · intro rc
      have hpk : gX10_here (zI M 98 22 (nI N)) = some (-1) := by
        rw [m_here (h.put (by omega)) ht (a := N) zI_at (by omega)]; unfold pkI; rw [if_neg (by omega)]
      unfold gX10_token_L0
      rw [zcI_some hpk, if_neg (by decide), zcI_some hpk, if_neg (by decide)]
      rfl
  obtain ⟨M', g1, g2, g3, g4⟩ := m_tkr (s := zI M 98 22 (nI (enP (isBk b) N a))) (h.put (by omega)) ht zI_at (enP_le ha)
  exact ⟨M', e.trans g1, g2, fun x i hx => by rw [g3 x i hx, zI_of (by omega)], g4⟩
