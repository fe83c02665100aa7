/-! numbers, signs, all TOKENS -/
def nv (b : Nat → Nat) (a : Nat) : Nat → Nat
  | 0 => 0
  | j + 1 => min (nv b a j * 10 + (b (a + j) - 48)) 1000000
theorem nv_le {b : Nat → Nat} {a : Nat} : ∀ j, nv b a j ≤ 1000000 := by
  intro j
  cases j with
  | zero => exact Nat.zero_le _
  | succ j => exact Nat.min_le_right _ _
theorem c_number {M : zM} {N a k : Nat} {b : Nat → Nat} (h : cB M N b) (ht : tB N b) (ha : M.1 50 2 = nI a) (hN : a ≤ N) (hk : k < 701) :
    gX7_takeNumber (nI k) M = some (3, zI (zI M 50 2 (nI (enP (isDg b) N a))) 53 k (nI (nv b a (enP (isDg b) N a - a)))) := by
  have h7 := ht.1
  have J54 : ∀ e, gX7_takeNumber_J54 (nI k) (nI (nv b a (e - a))) (zI M 50 2 (nI e)) = some (3, zI (zI M 50 2 (nI e)) 53 k (nI (nv b a (e - a)))) := fun e => by
    unfold gX7_takeNumber_J54
    rw [zg_true (zok_nI hk (by omega)), zlet_eq, nI_cl (by omega)]
  unfold gX7_takeNumber
  refine zfix_while (isDg b) N a (fun i => (nI (nv b a (i - a)), zI M 50 2 (nI i))) (r := fun e => some (3, zI (zI M 50 2 (nI e)) 53 k (nI (nv b a (e - a))))) ?_ hN (by omega) ?_ ?_ ?_
  · rw [Nat.sub_self, zI_same ha, show nv b a 0 = 0 from rfl, nI_0]
  · intro i h1 h2 hp rc
    have hc := h.put (a := 50) (i := 2) (x := nI i) (by omega) (by omega)
    have hb := ht.2 i h2
    have hp' : 48 ≤ b i ∧ b i ≤ 57 := of_decide_eq_true hp
    have hpk : gX7_peek (zI M 50 2 (nI i)) = some (nI (b i)) := by rw [c_peek hc ht zI_at (by omega)]; unfold pkI; rw [if_pos h2]
    have hv := nv_le (b := b) (a := a) (i - a)
    unfold gX7_takeNumber_L2
    dsimp only
    rw [hc.1, zI_at, if_neg (nI_ge h2 (by omega)), zcI_some hpk, zcI_some (isD_c hb), decide_eq_true hp', if_neg (show ¬ b2i true = 0 by decide), zcI_some hpk, zlet_eq, zlet_eq, nI_1, zI_zI, show i + 1 - a = (i - a) + 1 by omega, nI_lit10, nI_mul', nI_add, show (48 : Int32) = nI 48 by decide, nI_sub (by omega), show (1000000 : Int32) = nI 1000000 by decide]
    show _ = rc (nI (min (nv b a (i - a) * 10 + (b (a + (i - a)) - 48)) 1000000), _)
    rw [show a + (i - a) = i by omega, show nv b a (i - a) * 10 + b i - 48 = nv b a (i - a) * 10 + (b i - 48) by omega]
    by_cases hm : nv b a (i - a) * 10 + (b i - 48) < 1000000
    · rw [if_pos ((nI_lt_iff (by omega) (by omega)).mpr hm), Nat.min_eq_left (by omega)]
    · rw [if_neg (fun w => hm ((nI_lt_iff (by omega) (by omega)).mp w)), Nat.min_eq_right (by omega)]
  · intro i h1 h2 hp rc
    have hc := h.put (a := 50) (i := 2) (x := nI i) (by omega) (by omega)
    have hb := ht.2 i h2
    have hp' : ¬ (48 ≤ b i ∧ b i ≤ 57) := of_decide_eq_false hp
    have hpk : gX7_peek (zI M 50 2 (nI i)) = some (nI (b i)) := by rw [c_peek hc ht zI_at (by omega)]; unfold pkI; rw [if_pos h2]
    unfold gX7_takeNumber_L2
    dsimp only
    rw [hc.1, zI_at, if_neg (nI_ge h2 (by omega)), zcI_some hpk, zcI_some (isD_c hb), decide_eq_false hp', if_pos (show b2i false = 0 by decide)]
    exact J54 i
  · intro rc
    have hc := h.put (a := 50) (i := 2) (x := nI N) (by omega) (by omega)
    unfold gX7_takeNumber_L2
    dsimp only
    rw [hc.1, zI_at, if_pos (nI_le (Nat.le_refl _) (by omega))]
    exact J54 N
/-- a sign's kind, how many bytes it has; c the byte, x what comes behind it -/
def sgK (c : Nat) (x : Int32) : Nat × Nat :=
  if c = 59 then (4, 1) else if c = 40 then (5, 1) else if c = 41 then (6, 1) else if c = 43 then (35, 1) else if c = 45 then (36, 1) else if c = 42 then (37, 1) else if c = 47 then (38, 1) else if c = 61 then (31, 1)
  else if c = 60 then (if x = 61 then (30, 2) else if x = 62 then (32, 2) else (29, 1))
  else if c = 62 then (if x = 61 then (33, 2) else (34, 1)) else (1, 1)
theorem pkI_one {N : Nat} {b : Nat → Nat} {a v : Nat} (ht : tB N b) (h : pkI N b a = nI v) (hv : v < 256) : a < N := by
  unfold pkI at h
  by_cases e : a < N
  · exact e
  · rw [if_neg e] at h
    exact absurd h.symm (nI_ne_m1 (by omega))
theorem c_takes {M : zM} {N a v : Nat} {b : Nat → Nat} (h : cB M N b) (ht : tB N b) (ha : M.1 50 2 = nI a) (hN : a ≤ N) : gX7_takes (nI v) M = some (if pkI N b a = nI v then (1, zI M 50 2 (nI (a + 1))) else (0, M)) := by
  unfold gX7_takes
  rw [zcI_some (c_peek h ht ha hN), ha, nI_1, zlet_eq]
  split <;> rfl
theorem nI_eqs {a b : Nat} (ha : a < 2 ^ 31) (hb : b < 2 ^ 31) : (nI a = nI b) = (a = b) := by
  apply propext
  constructor
  · intro h
    have := congrArg Int32.toInt h
    rw [nI_toInt ha, nI_toInt hb] at this
    omega
  · intro h; rw [h]
theorem ite_r {α : Type} {P : Prop} [Decidable P] {x y : α} (h : y = x) : (if P then x else y) = x := by
  rw [h]; exact ite_self x
theorem c_sign {M : zM} {N a c : Nat} {b : Nat → Nat} (h : cB M N b) (ht : tB N b) (ha : M.1 50 2 = nI (a + 1)) (hN : a < N) (hc : c ≤ 255) :
    gX7_takeSign (nI c) M = some (nI (sgK c (pkI N b (a + 1))).1, zI M 50 2 (nI (a + (sgK c (pkI N b (a + 1))).2))) := by
  have e1 : zI M 50 2 (nI (a + 1)) = M := zI_same ha
  have t61 := c_takes (v := 61) h ht ha (by omega)
  have t62 := c_takes (v := 62) h ht ha (by omega)
  have one : ∀ K : Nat, (sgK c (pkI N b (a + 1))) = (K, 1) → (some (nI K, M) : Option (Int32 × zM)) = some (nI (sgK c (pkI N b (a + 1))).1, zI M 50 2 (nI (a + (sgK c (pkI N b (a + 1))).2))) := fun K hK => by rw [hK]; show _ = some (nI K, zI M 50 2 (nI (a + 1))); rw [e1]
  have ne : ∀ k : Nat, k < 256 → c ≠ k → ¬ nI c = nI k := fun k hk w => by rw [nI_eqs (by omega) (by omega)]; exact w
  have up : ∀ k : Nat, k < 256 → (¬ nI c = nI k) = (c ≠ k) := fun k hk => by rw [nI_eqs (by omega) (by omega)]
  by_cases h40 : c = 40
  · subst h40; exact one 5 rfl
  by_cases h41 : c = 41
  · subst h41; exact one 6 rfl
  by_cases h42 : c = 42
  · subst h42; exact one 37 rfl
  by_cases h43 : c = 43
  · subst h43; exact one 35 rfl
  by_cases h45 : c = 45
  · subst h45; exact one 36 rfl
  by_cases h47 : c = 47
  · subst h47; exact one 38 rfl
  by_cases h59 : c = 59
  · subst h59; exact one 4 rfl
  by_cases h61 : c = 61
  · subst h61; exact one 31 rfl
  by_cases h60 : c = 60
  · subst h60
    show zcIM (gX7_takes 61 M) (fun v1_ M2_ => (if v1_ = 0 then zcIM (gX7_takes 62 M2_) (fun v4_ M5_ => (if v4_ = 0 then some (29, M5_) else some (32, M5_))) else some (30, M2_))) = _
    by_cases x61 : pkI N b (a + 1) = nI 61
    · rw [if_pos x61] at t61
      rw [zcIM_some (show gX7_takes 61 M = _ from t61), if_neg (show ¬ (1 : Int32) = 0 by decide), x61]
      rfl
    · rw [if_neg x61] at t61
      rw [zcIM_some (show gX7_takes 61 M = _ from t61), if_pos rfl]
      by_cases x62 : pkI N b (a + 1) = nI 62
      · rw [if_pos x62] at t62
        rw [zcIM_some (show gX7_takes 62 M = _ from t62), if_neg (show ¬ (1 : Int32) = 0 by decide), x62]
        rfl
      · rw [if_neg x62] at t62
        rw [zcIM_some (show gX7_takes 62 M = _ from t62), if_pos rfl]
        refine one 29 ?_
        show (if pkI N b (a + 1) = 61 then (30, 2) else if pkI N b (a + 1) = 62 then (32, 2) else (29, 1)) = _
        rw [if_neg (show ¬ pkI N b (a + 1) = 61 from x61), if_neg (show ¬ pkI N b (a + 1) = 62 from x62)]
  by_cases h62 : c = 62
  · subst h62
    show zcIM (gX7_takes 61 M) (fun v7_ M8_ => (if v7_ = 0 then some (34, M8_) else some (33, M8_))) = _
    by_cases x61 : pkI N b (a + 1) = nI 61
    · rw [if_pos x61] at t61
      rw [zcIM_some (show gX7_takes 61 M = _ from t61), if_neg (show ¬ (1 : Int32) = 0 by decide), x61]
      rfl
    · rw [if_neg x61] at t61
      rw [zcIM_some (show gX7_takes 61 M = _ from t61), if_pos rfl]
      refine one 34 ?_
      show (if pkI N b (a + 1) = 61 then (33, 2) else (34, 1)) = _
      rw [if_neg (show ¬ pkI N b (a + 1) = 61 from x61)]
  have hs : sgK c (pkI N b (a + 1)) = (1, 1) := by
    unfold sgK
    rw [if_neg h59, if_neg h40, if_neg h41, if_neg h43, if_neg h45, if_neg h42, if_neg h47, if_neg h61, if_neg h60, if_neg h62]
  unfold gX7_takeSign
  rw [if_neg (show ¬ nI c = 40 from ne 40 (by omega) h40), if_neg (show ¬ nI c = 41 from ne 41 (by omega) h41), if_neg (show ¬ nI c = 42 from ne 42 (by omega) h42), if_neg (show ¬ nI c = 43 from ne 43 (by omega) h43)]
  have last : ∀ (r : Option (Int32 × zM)), r = some (1, M) → r = some (nI (sgK c (pkI N b (a + 1))).1, zI M 50 2 (nI (a + (sgK c (pkI N b (a + 1))).2))) := fun r hr => by rw [hr]; exact one 1 hs
  apply last
  have n45 := ne 45 (by omega) h45
  have n47 := ne 47 (by omega) h47
  have n59 := ne 59 (by omega) h59
  have n60 := ne 60 (by omega) h60
  have n61 := ne 61 (by omega) h61
  have n62 := ne 62 (by omega) h62
  refine ite_r ?_
  rw [if_neg (show ¬ nI c = 45 from n45)]
  refine ite_r ?_
  rw [if_neg (show ¬ nI c = 47 from n47)]
  refine ite_r (ite_r (ite_r (ite_r (ite_r (ite_r (ite_r (ite_r (ite_r (ite_r (ite_r ?_))))))))))
  rw [if_neg (show ¬ nI c = 59 from n59), if_neg (show ¬ nI c = 60 from n60), if_neg (show ¬ nI c = 61 from n61), if_neg (show ¬ nI c = 62 from n62)]
/-- the TOKEN at a place where no blank is: kind, end, value -/
def tkK (N : Nat) (b : Nat → Nat) (p : Nat) : Nat := if p < N then (if isLt b p then wdK b p (enP (isLt b) N p - p) else if isDg b p then 3 else (sgK (b p) (pkI N b (p + 1))).1) else 0
def tkE (N : Nat) (b : Nat → Nat) (p : Nat) : Nat := if p < N then (if isLt b p then enP (isLt b) N p else if isDg b p then enP (isDg b) N p else p + (sgK (b p) (pkI N b (p + 1))).2) else p
def tkV (N : Nat) (b : Nat → Nat) (p : Nat) : Int32 := if p < N then (if isLt b p then (if enP (isLt b) N p - p ≤ 6 then nI (lw b p (enP (isLt b) N p - p)) else 0) else if isDg b p then nI (nv b p (enP (isDg b) N p - p)) else 0) else 0
theorem sgK_2 {N : Nat} {b : Nat → Nat} {c a : Nat} (ht : tB N b) (ha : a < N) : 1 ≤ (sgK c (pkI N b (a + 1))).2 ∧ a + (sgK c (pkI N b (a + 1))).2 ≤ N ∧ (sgK c (pkI N b (a + 1))).1 ≠ 0 ∧ (sgK c (pkI N b (a + 1))).1 ≤ 38 := by
  have h61 : pkI N b (a + 1) = 61 → a + 1 < N := fun h => pkI_one ht (v := 61) h (by omega)
  have h62 : pkI N b (a + 1) = 62 → a + 1 < N := fun h => pkI_one ht (v := 62) h (by omega)
  unfold sgK
  repeat' split
  all_goals refine ⟨by simp, ?_, by simp, by simp⟩
  all_goals dsimp only
  all_goals first
    | omega
    | (have := h61 (by assumption); omega)
    | (have := h62 (by assumption); omega)
theorem wdK_le {b : Nat → Nat} {a l : Nat} : wdK b a l ≠ 0 ∧ wdK b a l ≤ 28 := by
  unfold wdK
  split
  · cases e : ffst (fun n => zc2 n == nI (lw b a l)) 22 with
    | none => exact ⟨by simp, by simp⟩
    | some n => have := (ffst_some e).1; exact ⟨by show 7 + n ≠ 0; omega, by show 7 + n ≤ 28; omega⟩
  · exact ⟨by simp, by simp⟩
theorem tk_facts {N : Nat} {b : Nat → Nat} {p : Nat} (ht : tB N b) (hp : p ≤ N) : tkK N b p ≤ 38 ∧ tkE N b p ≤ N ∧ p ≤ tkE N b p ∧ (tkK N b p ≠ 0 → p < tkE N b p) ∧ (tkK N b p = 0 ↔ p = N) := by
  unfold tkK tkE
  by_cases h : p < N
  · rw [if_pos h, if_pos h]
    cases hl : isLt b p with
    | true =>
      have a1 := wdK_le (b := b) (a := p) (l := enP (isLt b) N p - p)
      have a2 := enP_gt h hl
      have a3 := enP_le (p := isLt b) hp
      simp only [if_true]
      exact ⟨by omega, a3, by omega, fun _ => a2, ⟨fun w => absurd w a1.1, fun w => by omega⟩⟩
    | false =>
      simp only [Bool.false_eq_true, if_false]
      cases hd : isDg b p with
      | true =>
        have a2 := enP_gt h hd
        have a3 := enP_le (p := isDg b) hp
        simp only [if_true]
        exact ⟨by omega, a3, by omega, fun _ => a2, ⟨fun w => by omega, fun w => by omega⟩⟩
      | false =>
        simp only [Bool.false_eq_true, if_false]
        have a := sgK_2 (c := b p) ht h
        exact ⟨a.2.2.2, a.2.1, by omega, fun _ => by omega, ⟨fun w => absurd w a.2.2.1, fun w => by omega⟩⟩
  · rw [if_neg h, if_neg h]
    exact ⟨by omega, hp, by omega, fun w => absurd rfl w, ⟨fun _ => by omega, fun _ => rfl⟩⟩
theorem c_token {M : zM} {N p k : Nat} {b : Nat → Nat} (h : cB M N b) (ht : tB N b) (ha : M.1 50 2 = nI p) (hN : p ≤ N) (hk : k < 701) (h53 : M.1 53 k = 0) :
    gX7_takeToken (nI k) M = some (nI (tkK N b p), zI (zI M 50 2 (nI (tkE N b p))) 53 k (tkV N b p)) := by
  have h7 := ht.1
  have e53 : ∀ e, zI (zI M 50 2 (nI e)) 53 k 0 = zI M 50 2 (nI e) := fun e => zI_same (by rw [zI_of (by omega)]; exact h53)
  unfold gX7_takeToken tkK tkE tkV
  rw [zcI_some (c_peek h ht ha hN)]
  unfold pkI
  by_cases hp : p < N
  · have hb := ht.2 p hp
    rw [if_pos hp, if_pos hp, if_pos hp, if_pos hp, if_neg (nI_ne_m1 (by omega)), zcI_some (isL_c hb)]
    cases hl : isLt b p with
    | true =>
      have hl' : decide (97 ≤ b p ∧ b p ≤ 122) = true := hl
      rw [hl', if_neg (show ¬ b2i true = 0 by decide), zcIM_some (c_word h ht ha hN hk)]
      simp only [if_true]
      by_cases w : enP (isLt b) N p - p ≤ 6
      · rw [if_pos w, if_pos w]
      · rw [if_neg w, if_neg w, e53]
    | false =>
      have hl' : decide (97 ≤ b p ∧ b p ≤ 122) = false := hl
      rw [hl', if_pos (show b2i false = 0 by decide), zcI_some (isD_c hb)]
      simp only [Bool.false_eq_true, if_false]
      cases hd : isDg b p with
      | true =>
        have hd' : decide (48 ≤ b p ∧ b p ≤ 57) = true := hd
        rw [hd', if_neg (show ¬ b2i true = 0 by decide), zcIM_some (c_number h ht ha hN hk)]
        simp only [if_true]
        rfl
      | false =>
        have hd' : decide (48 ≤ b p ∧ b p ≤ 57) = false := hd
        rw [hd', if_pos (show b2i false = 0 by decide), ha, nI_1, zlet_eq]
        simp only [Bool.false_eq_true, if_false]
        have hc := h.put (a := 50) (i := 2) (x := nI (p + 1)) (by omega) (by omega)
        rw [zcIM_some (c_sign (c := b p) hc ht zI_at hp hb), zI_zI, e53]
        rfl
  · rw [if_neg hp, if_neg hp, if_neg hp, if_neg hp, if_pos rfl, e53, zI_same ha]
    rfl
/-- where the TOKENS begin -/
def ps (N : Nat) (b : Nat → Nat) : Nat → Nat
  | 0 => 0
  | k + 1 => tkE N b (enP (isBk b) N (ps N b k))
def pl (N : Nat) (b : Nat → Nat) (k : Nat) : Nat := enP (isBk b) N (ps N b k)
def tk (N : Nat) (b : Nat → Nat) (k : Nat) : Nat := tkK N b (pl N b k)
def tv (N : Nat) (b : Nat → Nat) (k : Nat) : Int32 := tkV N b (pl N b k)
theorem ps_s {N : Nat} {b : Nat → Nat} {k : Nat} : ps N b (k + 1) = tkE N b (pl N b k) := rfl
theorem ps_le {N : Nat} {b : Nat → Nat} (ht : tB N b) : ∀ k, ps N b k ≤ N ∧ pl N b k ≤ N := by
  intro k
  have h : ps N b k ≤ N := by
    induction k with
    | zero => exact Nat.zero_le _
    | succ k ih => exact (tk_facts ht (enP_le ih)).2.1
  exact ⟨h, enP_le h⟩
theorem ps_grow {N : Nat} {b : Nat → Nat} (ht : tB N b) : ∀ k, (∀ j, j < k → tk N b j ≠ 0) → k ≤ ps N b k := by
  intro k
  induction k with
  | zero => intro _; exact Nat.zero_le _
  | succ k ih =>
    intro h
    have a := ih (fun j hj => h j (by omega))
    have c := (tk_facts ht (ps_le ht k).2).2.2.2.1 (h k (by omega))
    have d : ps N b k ≤ pl N b k := enP_ge
    rw [ps_s]
    omega
/-- the END's number -/
theorem end_ex {N : Nat} {b : Nat → Nat} (ht : tB N b) : ∃ z, z ≤ N ∧ tk N b z = 0 ∧ ∀ j, j < z → tk N b j ≠ 0 := by
  cases e : ffst (fun k => tk N b k == 0) (N + 1) with
  | some z =>
    obtain ⟨h1, h2, h3⟩ := ffst_some e
    exact ⟨z, by omega, by simpa using h2, fun j hj => by have := h3 j hj; simpa using this⟩
  | none =>
    have := ps_grow ht (N + 1) (fun j hj => by have := ffst_none e j hj; simpa using this)
    have := (ps_le ht (N + 1)).1
    omega
