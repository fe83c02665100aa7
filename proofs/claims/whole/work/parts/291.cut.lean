/-! the class cuts a TEXT -/
def enP (p : Nat → Bool) (N a : Nat) : Nat := a + (match ffst (fun k => !p (a + k)) (N - a) with
  | some k => k
  | none => N - a)
theorem enP_ge {p : Nat → Bool} {N a : Nat} : a ≤ enP p N a := by unfold enP; omega
theorem enP_le {p : Nat → Bool} {N a : Nat} (h : a ≤ N) : enP p N a ≤ N := by
  unfold enP
  cases e : ffst (fun k => !p (a + k)) (N - a) with
  | some k => have := (ffst_some e).1; show a + k ≤ N; omega
  | none => show a + (N - a) ≤ N; omega
theorem enP_in {p : Nat → Bool} {N a i : Nat} (h1 : a ≤ i) (h2 : i < enP p N a) : p i = true := by
  unfold enP at h2
  cases e : ffst (fun k => !p (a + k)) (N - a) with
  | some k =>
    rw [e] at h2
    have h2' : i < a + k := h2
    have := (ffst_some e).2.2 (i - a) (by omega)
    rw [show a + (i - a) = i by omega] at this
    simpa using this
  | none =>
    rw [e] at h2
    have h2' : i < a + (N - a) := h2
    have := ffst_none e (i - a) (by omega)
    rw [show a + (i - a) = i by omega] at this
    simpa using this
theorem enP_out {p : Nat → Bool} {N a : Nat} (h2 : enP p N a < N) : p (enP p N a) = false := by
  unfold enP at h2 ⊢
  cases e : ffst (fun k => !p (a + k)) (N - a) with
  | some k =>
    have := (ffst_some e).2.1
    show p (a + k) = false
    simpa using this
  | none =>
    rw [e] at h2
    have h2' : a + (N - a) < N := h2
    omega
theorem enP_gt {p : Nat → Bool} {N a : Nat} (h : a < N) (hp : p a = true) : a < enP p N a := by
  rcases Nat.lt_or_ge a (enP p N a) with w | w
  · exact w
  · have e : enP p N a = a := Nat.le_antisymm w enP_ge
    have := enP_out (p := p) (N := N) (a := a) (by omega)
    rw [e, hp] at this
    cases this
/-- a loop that goes on while p -/
theorem zfix_while {σ ρ : Type} {B : (σ → Option ρ) → σ → Option ρ} (p : Nat → Bool) (N a : Nat) (f : Nat → σ) {s0 : σ} {r : Nat → Option ρ} (h0 : s0 = f a) (ha : a ≤ N) (hN : N < 1000) (hs : ∀ i, a ≤ i → i < N → p i = true → ∀ rc, B rc (f i) = rc (f (i + 1))) (he : ∀ i, a ≤ i → i < N → p i = false → ∀ rc, B rc (f i) = r i) (hl : ∀ rc, B rc (f N) = r N) : zfix zFu B s0 = r (enP p N a) := by
  rw [zfix_find (fun k => f (a + k)) (fun k => !p (a + k)) (fun k => r (a + k)) (r N) (N - a) (by rw [Nat.add_zero]; exact h0) (by unfold zFu; omega) (fun k hk hp rc => hs (a + k) (by omega) (by omega) (by simpa using hp) rc) (fun k hk hp rc => he (a + k) (by omega) (by omega) (by simpa using hp) rc) (fun rc => by rw [show a + (N - a) = N by omega]; exact hl rc)]
  unfold enP
  cases e : ffst (fun k => !p (a + k)) (N - a) with
  | some k => rfl
  | none => show r N = r (a + (N - a)); rw [show a + (N - a) = N by omega]
theorem zI_same {M : zM} {a i : Nat} {x : Int32} (h : M.1 a i = x) : zI M a i x = M := by
  refine Prod.ext ?_ rfl
  funext b j
  by_cases e : b = a ∧ j = i
  · rw [e.1, e.2, zI_at, h]
  · exact zI_of e
theorem zI_zI {M : zM} {a i : Nat} {x y : Int32} : zI (zI M a i x) a i y = zI M a i y := by
  refine Prod.ext ?_ rfl
  funext b j
  by_cases e : b = a ∧ j = i
  · rw [e.1, e.2, zI_at, zI_at]
  · rw [zI_of e, zI_of e, zI_of e]
def tB (N : Nat) (b : Nat → Nat) : Prop := N ≤ 700 ∧ ∀ i, i < N → b i ≤ 255
def cB (M : zM) (N : Nat) (b : Nat → Nat) : Prop := M.1 50 1 = nI N ∧ M.2.2 50 0 = some 1 ∧ ∀ i, i < N → M.1 1 i &&& 255 = nI (b i) ∧ (M.1 1 i = 32 ↔ b i = 32) ∧ (M.1 1 i = 10 ↔ b i = 10)
theorem cB.mono {M M' : zM} {N : Nat} {b : Nat → Nat} (h : cB M N b) (h1 : M'.1 50 1 = M.1 50 1) (h2 : M'.2.2 50 0 = M.2.2 50 0) (h3 : ∀ i, M'.1 1 i = M.1 1 i) : cB M' N b :=
  ⟨by rw [h1]; exact h.1, by rw [h2]; exact h.2.1, fun i hi => by rw [h3]; exact h.2.2 i hi⟩
theorem cB.put {M : zM} {N : Nat} {b : Nat → Nat} {a i : Nat} {x : Int32} (h : cB M N b) (ha : a ≠ 1) (hi : ¬ (a = 50 ∧ i = 1)) : cB (zI M a i x) N b := h.mono (zI_of (by omega)) rfl (fun j => zI_of (by omega))
def pkI (N : Nat) (b : Nat → Nat) (a : Nat) : Int32 := if a < N then nI (b a) else -1
theorem c_peek {M : zM} {N a : Nat} {b : Nat → Nat} (h : cB M N b) (ht : tB N b) (ha : M.1 50 2 = nI a) (hN : a ≤ N) : gX7_peek M = some (pkI N b a) := by
  have := ht.1
  unfold gX7_peek pkI
  rw [ha, h.1, if_neg (nI_pos (by omega))]
  by_cases e : a < N
  · rw [if_pos e, if_neg (nI_ge e (by omega)), zgC_some h.2.1, zg_true (zok_nI (show a < 700 by omega) (by omega)), nI_cl (by omega), (h.2.2 a e).1]
  · rw [if_neg e, if_pos (nI_le (by omega) (by omega))]
def isBk (b : Nat → Nat) (i : Nat) : Bool := decide (b i = 32 ∨ b i = 10)
def isLt (b : Nat → Nat) (i : Nat) : Bool := decide (97 ≤ b i ∧ b i ≤ 122)
def isDg (b : Nat → Nat) (i : Nat) : Bool := decide (48 ≤ b i ∧ b i ≤ 57)
theorem c_skip {M : zM} {N a : Nat} {b : Nat → Nat} (h : cB M N b) (ht : tB N b) (ha : M.1 50 2 = nI a) (hN : a ≤ N) : gX7_skipBlanks M = some (zI M 50 2 (nI (enP (isBk b) N a))) := by
  have h7 := ht.1
  unfold gX7_skipBlanks
  refine zfix_while (isBk b) N a (fun i => zI M 50 2 (nI i)) (r := fun e => some (zI M 50 2 (nI e))) (zI_same ha).symm hN (by omega) ?_ ?_ ?_
  · intro i h1 h2 hp rc
    have hc := h.put (a := 50) (i := 2) (x := nI i) (by omega) (by omega)
    unfold gX7_skipBlanks_L0 gX7_skipBlanks_J39
    rw [hc.1, zI_at, if_neg (nI_ge h2 (by omega)), zgC_some hc.2.1, zg_true (zok_nI (show i < 700 by omega) (by omega)), nI_cl (by omega), zgC_some hc.2.1, zg_true (zok_nI (show i < 700 by omega) (by omega)), zlet_eq, nI_1, zI_zI, zI_of (by omega)]
    have hp' : b i = 32 ∨ b i = 10 := of_decide_eq_true hp
    by_cases e : b i = 32
    · rw [if_pos ((h.2.2 i h2).2.1.mpr e)]
    · rw [if_neg (fun w => e ((h.2.2 i h2).2.1.mp w)), if_pos ((h.2.2 i h2).2.2.mpr (by omega))]
  · intro i h1 h2 hp rc
    have hc := h.put (a := 50) (i := 2) (x := nI i) (by omega) (by omega)
    unfold gX7_skipBlanks_L0
    have hp' : ¬ (b i = 32 ∨ b i = 10) := of_decide_eq_false hp
    rw [hc.1, zI_at, if_neg (nI_ge h2 (by omega)), zgC_some hc.2.1, zg_true (zok_nI (show i < 700 by omega) (by omega)), nI_cl (by omega), zgC_some hc.2.1, zg_true (zok_nI (show i < 700 by omega) (by omega)), zI_of (by omega), if_neg (fun w => hp' (Or.inl ((h.2.2 i h2).2.1.mp w))), if_neg (fun w => hp' (Or.inr ((h.2.2 i h2).2.2.mp w)))]
  · intro rc
    have hc := h.put (a := 50) (i := 2) (x := nI N) (by omega) (by omega)
    unfold gX7_skipBlanks_L0
    rw [hc.1, zI_at, if_pos (nI_le (Nat.le_refl _) (by omega))]
theorem isL_c {x : Nat} {M : zM} (h : x ≤ 255) : gX7_isLetter (nI x) M = some (b2i (decide (97 ≤ x ∧ x ≤ 122))) := by
  unfold gX7_isLetter
  rw [show (97 : Int32) = nI 97 by decide, show (122 : Int32) = nI 122 by decide]
  by_cases h1 : x < 97
  · rw [if_pos ((nI_lt_iff (by omega) (by omega)).mpr h1), decide_eq_false (by omega)]; rfl
  · rw [if_neg (fun w => h1 ((nI_lt_iff (by omega) (by omega)).mp w))]
    by_cases h2 : 122 < x
    · rw [if_pos ((nI_lt_iff (by omega) (by omega)).mpr h2), decide_eq_false (by omega)]; rfl
    · rw [if_neg (fun w => h2 ((nI_lt_iff (by omega) (by omega)).mp w)), decide_eq_true (by omega)]; rfl
theorem isD_c {x : Nat} {M : zM} (h : x ≤ 255) : gX7_isDigit (nI x) M = some (b2i (decide (48 ≤ x ∧ x ≤ 57))) := by
  unfold gX7_isDigit
  rw [show (48 : Int32) = nI 48 by decide, show (57 : Int32) = nI 57 by decide]
  by_cases h1 : x < 48
  · rw [if_pos ((nI_lt_iff (by omega) (by omega)).mpr h1), decide_eq_false (by omega)]; rfl
  · rw [if_neg (fun w => h1 ((nI_lt_iff (by omega) (by omega)).mp w))]
    by_cases h2 : 57 < x
    · rw [if_pos ((nI_lt_iff (by omega) (by omega)).mpr h2), decide_eq_false (by omega)]; rfl
    · rw [if_neg (fun w => h2 ((nI_lt_iff (by omega) (by omega)).mp w)), decide_eq_true (by omega)]; rfl
theorem lw_hi {b : Nat → Nat} {a j : Nat} (hj : 6 ≤ j) : lw b a (j + 1) = lw b a j := by
  unfold lw
  rw [Nat.min_eq_right (by omega), Nat.min_eq_right (by omega)]
def wdK (b : Nat → Nat) (a l : Nat) : Nat := if l ≤ 6 then (match ffst (fun n => zc2 n == nI (lw b a l)) 22 with
  | some n => 7 + n
  | none => 2) else 1
theorem findS_eq {x : Int32} {M : zM} : gX9_findS 22 x M = some (oN (ffst (fun n => zc2 n == x) 22)) := by
  unfold gX9_findS
  rw [zfix_find (B := gX9_findS_L2 22 x M) (fun k => nI k) (fun n => zc2 n == x) (fun k => some (nI k)) (some (-1)) 22 nI_0.symm (by unfold zFu; omega) ?_ ?_ ?_]
  · cases ffst (fun n => zc2 n == x) 22 <;> rfl
  · intro k hk hp rc
    unfold gX9_findS_L2
    rw [show (22 : Int32) = nI 22 by decide, if_neg (nI_ge hk (by omega)), if_neg (nI_ge hk (by omega)), zg_true (zok_nI hk (by omega)), nI_cl (by omega), if_neg (by simpa using hp), nI_1]
  · intro k hk hp rc
    unfold gX9_findS_L2
    rw [show (22 : Int32) = nI 22 by decide, if_neg (nI_ge hk (by omega)), if_neg (nI_ge hk (by omega)), zg_true (zok_nI hk (by omega)), nI_cl (by omega), if_pos (by simpa using hp)]
  · intro rc
    unfold gX9_findS_L2
    rw [show (22 : Int32) = nI 22 by decide, if_pos (nI_le (Nat.le_refl _) (by omega))]
theorem sh5 {j : Nat} (h : j < 6) : ((25 - (5 * nI j)) : Int32) &&& 31 = nI (25 - 5 * j) := by
  have : ∀ m : Fin 6, ((25 - (5 * nI m.val)) : Int32) &&& 31 = nI (25 - 5 * m.val) := by decide
  exact this ⟨j, h⟩
theorem c_word {M : zM} {N a k : Nat} {b : Nat → Nat} (h : cB M N b) (ht : tB N b) (ha : M.1 50 2 = nI a) (hN : a ≤ N) (hk : k < 701) :
    gX7_takeWord (nI k) M = some (nI (wdK b a (enP (isLt b) N a - a)), if enP (isLt b) N a - a ≤ 6 then zI (zI M 50 2 (nI (enP (isLt b) N a))) 53 k (nI (lw b a (enP (isLt b) N a - a))) else zI M 50 2 (nI (enP (isLt b) N a))) := by
  have h7 := ht.1
  have J76 : ∀ e, a ≤ e → e ≤ N → gX7_takeWord_J76 (nI k) (nI a) (nI (lw b a (e - a))) (zI M 50 2 (nI e)) = some (nI (wdK b a (e - a)), if e - a ≤ 6 then zI (zI M 50 2 (nI e)) 53 k (nI (lw b a (e - a))) else zI M 50 2 (nI e)) := fun e e1 e2 => by
    unfold gX7_takeWord_J76 wdK
    rw [zI_at, nI_sub e1, nI_lit6]
    by_cases hl : e - a ≤ 6
    · rw [if_pos (nI_le hl (by omega)), if_pos hl, if_pos hl, zg_true (zok_nI hk (by omega)), zlet_eq, nI_cl (by omega), zcI_some findS_eq]
      cases hf : ffst (fun n => zc2 n == nI (lw b a (e - a))) 22 with
      | none => rfl
      | some n =>
        have := (ffst_some hf).1
        show (if (0 : Int32) ≤ nI n then _ else _) = _
        rw [if_pos (nI_nn (by omega)), nI_lit7, show oN (some n) = nI n from rfl, nI_add]
    · rw [if_neg (nI_ge (by omega) (by omega)), if_neg hl, if_neg hl]; rfl
  unfold gX7_takeWord
  rw [ha]
  refine zfix_while (isLt b) N a (fun i => (nI (lw b a (i - a)), zI M 50 2 (nI i))) (r := fun e => some (nI (wdK b a (e - a)), if e - a ≤ 6 then zI (zI M 50 2 (nI e)) 53 k (nI (lw b a (e - a))) else zI M 50 2 (nI e))) ?_ hN (by omega) ?_ ?_ ?_
  · rw [Nat.sub_self, zI_same ha, show lw b a 0 = 0 from by unfold lw cd6 dE; simp, nI_0]
  · intro i h1 h2 hp rc
    have hc := h.put (a := 50) (i := 2) (x := nI i) (by omega) (by omega)
    have hb := ht.2 i h2
    have hp' : 97 ≤ b i ∧ b i ≤ 122 := of_decide_eq_true hp
    have hpk : gX7_peek (zI M 50 2 (nI i)) = some (nI (b i)) := by rw [c_peek hc ht zI_at (by omega)]; unfold pkI; rw [if_pos h2]
    have hd : ltD b a (i - a) ≤ 26 := by unfold ltD; rw [show a + (i - a) = i by omega]; omega
    unfold gX7_takeWord_L7 gX7_takeWord_J63
    dsimp only
    rw [hc.1, zI_at, if_neg (nI_ge h2 (by omega)), zcI_some hpk, zcI_some (isL_c hb), decide_eq_true hp', if_neg (show ¬ b2i true = 0 by decide), nI_sub h1, nI_lit6, zcI_some hpk, zlet_eq, zlet_eq, zlet_eq, nI_1, zI_zI, show i + 1 - a = (i - a) + 1 by omega]
    by_cases h6 : 6 ≤ i - a
    · rw [if_pos (nI_le h6 (by omega)), lw_hi h6]
    · rw [if_neg (nI_ge (by omega) (by omega)), sh5 (by omega), show (97 : Int32) = nI 97 by decide, nI_sub hp'.1, nI_1, show b i - 97 + 1 = ltD b a (i - a) by unfold ltD; rw [show a + (i - a) = i by omega]; omega, nI_shl _ _ (by omega), nI_or, lw_s (by omega) hd]
  · intro i h1 h2 hp rc
    have hc := h.put (a := 50) (i := 2) (x := nI i) (by omega) (by omega)
    have hb := ht.2 i h2
    have hp' : ¬ (97 ≤ b i ∧ b i ≤ 122) := of_decide_eq_false hp
    have hpk : gX7_peek (zI M 50 2 (nI i)) = some (nI (b i)) := by rw [c_peek hc ht zI_at (by omega)]; unfold pkI; rw [if_pos h2]
    unfold gX7_takeWord_L7
    dsimp only
    rw [hc.1, zI_at, if_neg (nI_ge h2 (by omega)), zcI_some hpk, zcI_some (isL_c hb), decide_eq_false hp', if_pos (show b2i false = 0 by decide)]
    exact J76 i h1 (by omega)
  · intro rc
    have hc := h.put (a := 50) (i := 2) (x := nI N) (by omega) (by omega)
    unfold gX7_takeWord_L7
    dsimp only
    rw [hc.1, zI_at, if_pos (nI_le (Nat.le_refl _) (by omega))]
    exact J76 N hN (Nat.le_refl _)
