/-! first ones -/
def ffstF (P : Nat → Bool) (j : Nat) : Nat → Option Nat
  | 0 => none
  | d + 1 => if P j then some j else ffstF P (j + 1) d
def ffst (P : Nat → Bool) (n : Nat) : Option Nat := ffstF P 0 n
theorem ffstF_some {P : Nat → Bool} {d j k : Nat} (h : ffstF P j d = some k) : j ≤ k ∧ k < j + d ∧ P k = true ∧ ∀ i, j ≤ i → i < k → P i = false := by
  induction d generalizing j with
  | zero => cases h
  | succ d ih =>
    unfold ffstF at h
    by_cases hp : P j = true
    · rw [if_pos hp] at h
      cases h
      exact ⟨Nat.le_refl _, by omega, hp, fun i h1 h2 => by omega⟩
    · rw [if_neg hp] at h
      obtain ⟨h1, h2, h3, h4⟩ := ih h
      refine ⟨by omega, by omega, h3, fun i q1 q2 => ?_⟩
      by_cases e : i = j
      · subst e; simpa using hp
      · exact h4 i (by omega) q2
theorem ffst_some {P : Nat → Bool} {n k : Nat} (h : ffst P n = some k) : k < n ∧ P k = true ∧ ∀ i, i < k → P i = false := by
  obtain ⟨h1, h2, h3, h4⟩ := ffstF_some h
  exact ⟨by omega, h3, fun i hi => h4 i (by omega) hi⟩
theorem ffstF_congr {P Q : Nat → Bool} {d j : Nat} (h : ∀ k, j ≤ k → k < j + d → P k = Q k) : ffstF P j d = ffstF Q j d := by
  induction d generalizing j with
  | zero => rfl
  | succ d ih =>
    unfold ffstF
    rw [h j (by omega) (by omega), ih (fun k h1 h2 => h k (by omega) (by omega))]
theorem ffst_congr {P Q : Nat → Bool} {n : Nat} (h : ∀ k, k < n → P k = Q k) : ffst P n = ffst Q n := ffstF_congr (fun k _ h2 => h k (by omega))
theorem zfix_findF {σ ρ : Type} {B : (σ → Option ρ) → σ → Option ρ} (f : Nat → σ) (P : Nat → Bool) (r1 : Nat → Option ρ) (r0 : Option ρ) (n : Nat) (hs : ∀ k, k < n → P k = false → ∀ rc, B rc (f k) = rc (f (k + 1))) (hh : ∀ k, k < n → P k = true → ∀ rc, B rc (f k) = r1 k) (he : ∀ rc, B rc (f n) = r0) : ∀ (d j N : Nat), j + d = n → d < N → zfix N B (f j) = (match ffstF P j d with
    | some k => r1 k
    | none => r0) := by
  intro d
  induction d with
  | zero =>
    intro j N hj hN
    cases N with
    | zero => omega
    | succ N =>
      have : j = n := by omega
      subst this
      exact he _
  | succ d ih =>
    intro j N hj hN
    cases N with
    | zero => omega
    | succ N =>
      rw [zfix_succ]
      unfold ffstF
      by_cases hp : P j = true
      · rw [if_pos hp, hh j (by omega) hp]
      · rw [if_neg hp, hs j (by omega) (by simpa using hp)]
        exact ih (j + 1) N (by omega) (by omega)
theorem zfix_find {σ ρ : Type} {B : (σ → Option ρ) → σ → Option ρ} (f : Nat → σ) (P : Nat → Bool) (r1 : Nat → Option ρ) (r0 : Option ρ) (n : Nat) {s0 : σ} (h0 : s0 = f 0) (hn : n < zFu) (hs : ∀ k, k < n → P k = false → ∀ rc, B rc (f k) = rc (f (k + 1))) (hh : ∀ k, k < n → P k = true → ∀ rc, B rc (f k) = r1 k) (he : ∀ rc, B rc (f n) = r0) : zfix zFu B s0 = (match ffst P n with
    | some k => r1 k
    | none => r0) := by
  rw [h0]
  exact zfix_findF f P r1 r0 n hs hh he n 0 zFu (by omega) hn
def oN (o : Option Nat) : Int32 := match o with
  | some t => nI t
  | none => -1
theorem nI_ofNat (n : Nat) : Int32.ofNat n = nI n := rfl
theorem s_find {a n0 n : Nat} {x : Int32} {M : zM} (h : n ≤ n0) (h0 : n0 < 100000) : gX9_find a n0 (nI n) x M = some (oN (ffst (fun k => M.1 a k == x) n)) := by
  unfold gX9_find
  rw [zfix_find (fun k => nI k) (fun k => M.1 a k == x) (fun k => some (nI k)) (some (-1)) n nI_0.symm (by unfold zFu; omega) ?_ ?_ ?_]
  · cases ffst (fun k => M.1 a k == x) n <;> rfl
  · intro k hk hp rc
    unfold gX9_find_L2
    rw [if_neg (nI_ge hk (by omega)), nI_ofNat, if_neg (nI_ge (by omega) (by omega)), zg_true (zok_nI (by omega) (by omega)), nI_cl (by omega), if_neg (by simpa using hp), nI_1]
  · intro k hk hp rc
    unfold gX9_find_L2
    rw [if_neg (nI_ge hk (by omega)), nI_ofNat, if_neg (nI_ge (by omega) (by omega)), zg_true (zok_nI (by omega) (by omega)), nI_cl (by omega), if_pos (by simpa using hp)]
  · intro rc
    unfold gX9_find_L2
    rw [if_pos (nI_le (Nat.le_refl _) (by omega))]
/-- who goes for a THING -/
def sGoer (V : AV) (n : Nat) (x : Int32) : Option Nat := ffst (fun k => V 5 k == x) n
def sFree (V : AV) (n T : Nat) : Option Nat := ffst (fun t => V 8 t == 0 && (sGoer V n (nI t)).isNone) T
theorem oT_ge {o : Option Nat} {T : Nat} (h : ∀ t, o = some t → t < T) (hT : T < 2 ^ 31) : 0 ≤ oT o ↔ o.isSome = true := by
  cases o with
  | none => simp [oT]
  | some t => simp only [oT, Option.isSome_some, iff_true]; exact nI_pos' (by have := h t rfl; omega)
theorem s_goerFor {M : zM} {w p n T L : Nat} {x : Int32} (hW : WC M w p n T L) : gX8_goerFor w x M = some (oT (sGoer (vC n T M w) n x)) := by
  obtain ⟨h1, h2, hp, hn, hT, hL, hl⟩ := hW
  have e : ffst (fun k => M.1 (w + 5) k == x) n = sGoer (vC n T M w) n x := ffst_congr (fun k hk => by rw [vC_at (vd (by omega) (by omega) hk)])
  unfold gX8_goerFor
  rw [zgP_some h2 hp, hn.1, zcI_some (s_find hn.2 (by omega)), e]
  cases h : sGoer (vC n T M w) n x with
  | none => rfl
  | some t =>
    have := (ffst_some h).1
    show (if 0 ≤ nI t then _ else _) = some (nI t)
    rw [if_pos (nI_pos' (by omega))]
    rfl
theorem sGoer_lt {V : AV} {n t : Nat} {x : Int32} (h : sGoer V n x = some t) : t < n := (ffst_some h).1
theorem sFree_lt {V : AV} {n T t : Nat} (h : sFree V n T = some t) : t < T := (ffst_some h).1
theorem s_free {M : zM} {w p n T L : Nat} (hW : WC M w p n T L) : gX8_freeThing w M = some (oT (sFree (vC n T M w) n T)) := by
  have hW0 := hW
  obtain ⟨h1, h2, hp, hn, hT, hL, hl⟩ := hW
  unfold gX8_freeThing
  rw [zfix_find (fun k => nI k) (fun t => vC n T M w 8 t == 0 && (sGoer (vC n T M w) n (nI t)).isNone) (fun k => some (nI k)) (some (-2)) T nI_0.symm (by unfold zFu; omega) ?_ ?_ ?_]
  · show _ = some (oT (ffst _ T))
    cases ffst (fun t => vC n T M w 8 t == 0 && (sGoer (vC n T M w) n (nI t)).isNone) T <;> rfl
  · intro k hk hpk rc
    unfold gX8_freeThing_L2
    rw [zgP_some h2 hp, hT.1, if_neg (nI_ge hk (by omega)), nI_lit8, if_neg (nI_ge (by omega) (by omega)), zg_true (zok_nI (by omega) (by omega)), nI_cl (by omega), ← vC_at (n := n) (T := T) (M := M) (w := w) (vdT (c := 8) (by omega) (by omega) hk)]
    by_cases hz : vC n T M w 8 k = 0
    · rw [if_pos hz, zcI_some (s_goerFor hW0), if_pos, nI_1]
      rw [oT_ge (fun t ht => sGoer_lt ht) (by omega)]
      rw [hz] at hpk
      simpa using hpk
    · rw [if_neg hz, nI_1]
  · intro k hk hpk rc
    unfold gX8_freeThing_L2
    simp only [Bool.and_eq_true, beq_iff_eq] at hpk
    rw [zgP_some h2 hp, hT.1, if_neg (nI_ge hk (by omega)), nI_lit8, if_neg (nI_ge (by omega) (by omega)), zg_true (zok_nI (by omega) (by omega)), nI_cl (by omega), ← vC_at (n := n) (T := T) (M := M) (w := w) (vdT (c := 8) (by omega) (by omega) hk), if_pos hpk.1, zcI_some (s_goerFor hW0), if_neg]
    rw [oT_ge (fun t ht => sGoer_lt ht) (by omega)]
    simpa using hpk.2
  · intro rc
    unfold gX8_freeThing_L2
    rw [zgP_some h2 hp, hT.1, if_pos (nI_le (Nat.le_refl _) (by omega))]
/-! daring -/
theorem evS_congr {F G : Nat → Int64} (h : ∀ i, i < 7 → F i = G i) (c : List (Int32 × Int32)) (st : List Int64) : evS F c st = evS G c st := by
  have ev : ∀ k n, eVal F k n = eVal G k n := by
    intro k n
    unfold eVal
    by_cases h1 : (k - 19) < 0
    · rw [if_pos h1, if_pos h1]
    · rw [if_neg h1, if_neg h1]
      by_cases h2 : 7 ≤ (k - 19)
      · rw [if_pos h2, if_pos h2]
      · rw [if_neg h2, if_neg h2]
        exact h _ (zok_lt (zok_of_lt h1 (by rw [← nI_lit7]; exact h2) (by omega))).2
  induction c generalizing st with
  | nil => rfl
  | cons q c ih =>
    unfold evS
    simp only [ih, ev]
theorem evL_congr {F G : Nat → Int64} (h : ∀ i, i < 7 → F i = G i) (c : List (Int32 × Int32)) : evL F c = evL G c := by
  unfold evL
  rw [evS_congr h]
def sLaw (LW : Nat → Option (List (Int32 × Int32))) (j : Nat) (F : Nat → Int64) : Option Int64 := (LW j).bind (evL F)
theorem sLaw_congr {LW : Nat → Option (List (Int32 × Int32))} {j : Nat} {F G : Nat → Int64} (h : ∀ i, i < 7 → F i = G i) : sLaw LW j F = sLaw LW j G := by
  unfold sLaw
  cases LW j with
  | none => rfl
  | some c => exact evL_congr h c
def b2i (b : Bool) : Int32 := if b then 1 else 0
def sDares (P V : AV) (LW : Nat → Option (List (Int32 × Int32))) (m : Nat) (t : Nat) (more : Int32) : Bool := match sLaw LW 0 (sFacts P V m (some t) more) with
  | some v => !decide (v = 0)
  | none => !decide (V 2 m + V 3 m + more < P 2 m + V 0 11)
theorem evS_B {F : Nat → Int64} (hF : ∀ k n, eB (eVal F k n)) : ∀ (c : List (Int32 × Int32)) (st s' : List Int64), (∀ v ∈ st, eB v) → evS F c st = some s' → ∀ v ∈ s', eB v := by
  intro c
  induction c with
  | nil => intro st s' h1 h2; cases h2; exact h1
  | cons q c ih =>
    intro st s' h1 h2
    unfold evS at h2
    by_cases h28 : q.1 = 28
    · rw [if_pos h28] at h2
      match st, h1, h2 with
      | [], _, h2 => cases h2
      | y :: r, h1, h2 => exact ih _ _ (fun u hu => (List.mem_cons.mp hu).elim (fun e => by rw [e]; split; exact eB_01.2; exact eB_01.1) (fun h => h1 u (List.mem_cons_of_mem _ h))) h2
    · rw [if_neg h28] at h2
      by_cases h26 : q.1 < 26
      · rw [if_pos h26] at h2
        exact ih _ _ (fun u hu => (List.mem_cons.mp hu).elim (fun e => by rw [e]; exact hF _ _) (h1 u)) h2
      · rw [if_neg h26] at h2
        match st, h1, h2 with
        | [], _, h2 => cases h2
        | [y], _, h2 => cases h2
        | y :: x :: r, h1, h2 =>
          dsimp only at h2
          cases hc : cmb q.1 x y with
          | none => rw [hc] at h2; cases h2
          | some v =>
            rw [hc] at h2
            exact ih _ _ (fun u hu => (List.mem_cons.mp hu).elim (fun e => by rw [e]; exact cmb_B hc) (fun h => h1 u (by simp [h]))) h2
theorem sFacts_B (P V : AV) (m : Nat) (o : Option Nat) (more : Int32) (i : Nat) : eB (sFacts P V m o more i) := by
  unfold sFacts
  repeat' split
  all_goals first | exact eB_I _ | exact eB_01.1
theorem eVal_B {F : Nat → Int64} (hF : ∀ i, eB (F i)) (k n : Int32) : eB (eVal F k n) := by
  unfold eVal
  repeat' split
  all_goals first | exact eB_I _ | exact hF _
theorem sLaw_B {LW : Nat → Option (List (Int32 × Int32))} {j : Nat} {F : Nat → Int64} (hF : ∀ i, eB (F i)) {v : Int64} (h : sLaw LW j F = some v) : eB v := by
  unfold sLaw at h
  cases hL : LW j with
  | none => rw [hL] at h; cases h
  | some c =>
    rw [hL] at h
    have h : evL F c = some v := h
    unfold evL at h
    cases hs : evS F c [] with
    | none => rw [hs] at h; cases h
    | some st =>
      rw [hs] at h
      match st, hs, h with
      | [], _, h => cases h
      | [u], hs, h =>
        cases h
        exact evS_B (eVal_B hF) c [] [v] (fun _ h => by cases h) hs v (by simp)
      | a :: b :: r, _, h => cases h
/-- a law by the facts of a MAN -/
theorem s_law {M M1 : zM} {w p n T L m j : Nat} {o : Option Nat} {more : Int32} (hW : WC M w p n T L) (hj : j < 3) (hf : FrL p M M1) (hF : ∀ i, i < 7 → M1.2.1 (p + 19) i = sFacts (pC n T L M p) (vC n T M w) m o more i) :
    ∃ M2, gX1_work p (nI j) M1 = some ((sLaw (lawC M p) j (sFacts (pC n T L M p) (vC n T M w) m o more)).getD eErr, M2) ∧ FrL p M M2 := by
  have hW1 := hW.fr (M' := M1) hf.W
  obtain ⟨M2, g1, g2, g3, g4⟩ := s_work (M := M1) hj (hW1.2.2.2.2.2.2 j hj)
  refine ⟨M2, ?_, by rw [g2, hf.1], by rw [g3, hf.2.1], fun a q1 q2 => by rw [g4 a q2, hf.2.2 a q1 q2]⟩
  rw [g1, lawC_fr hW hf.W]
  congr 2
  show (sLaw (lawC M p) j (M1.2.1 (p + 19))).getD eErr = _
  rw [sLaw_congr hF]
theorem s_dares {M : zM} {w p n T L m t : Nat} {more : Int32} (hW : WC M w p n T L) (hm : m < n) (ht : t < T) :
    ∃ M', gX8_dares w (nI m) (nI t) more M = some (b2i (sDares (pC n T L M p) (vC n T M w) (lawC M p) m t more), M') ∧ FrL p M M' := by
  have hW0 := hW
  obtain ⟨h1, h2, hp, hn, hT, hL, hl⟩ := hW
  have hm6 : m < 6 := by omega
  obtain ⟨M1, f1, f2, f3, f4⟩ := s_setFacts (o := some t) (more := more) hW0 hm (fun q hq => by cases hq; exact ht)
  obtain ⟨M2, g1, g2⟩ := s_law (j := 0) hW0 (by omega) f2 f4
  have f1 : gX8_setFacts w (nI m) (nI t) more M = some M1 := f1
  unfold gX8_dares
  rw [if_neg (nI_pos (by omega)), nI_lit6, if_pos (nI_lt hm6 (by omega)), zcV_some f1, zgP_some (by rw [f2.2.1]; exact h2) hp]
  rw [nI_0] at g1
  rw [zcLM_some g1]
  simp only [lg_cmp_eq]
  unfold sDares
  cases hs : sLaw (lawC M p) 0 (sFacts (pC n T L M p) (vC n T M w) m (some t) more) with
  | some v =>
    have hv := sLaw_B (sFacts_B _ _ _ _ _) hs
    rw [Option.getD_some, if_neg (eB_ne hv)]
    by_cases h0 : v = 0
    · rw [if_pos h0]; exact ⟨M2, by simp [h0, b2i, nI_0], g2⟩
    · rw [if_neg h0]; exact ⟨M2, by simp [h0, b2i], g2⟩
  | none =>
    rw [Option.getD_none, if_pos rfl, zg_true (zok_nI hm6 (by omega)), zg_true (zok_nI hm6 (by omega)), zgP_some (by rw [g2.2.1]; exact h2) hp, zg_true (zok_nI hm6 (by omega)), nI_cl (by omega), g2.1]
    rw [pC_at (pdN (c := 2) (by omega) (by omega) hm), vC_at (vd (c := 2) (by omega) (by omega) hm), vC_at (vd (c := 3) (by omega) (by omega) hm), vC_at (c := 0) (k := 11) rfl]
    by_cases hc : M.1 (w + 2) m + M.1 (w + 3) m + more < M.1 (p + 2) m + M.1 w 11
    · rw [if_pos hc]; exact ⟨M2, by simp [hc, b2i, nI_0], g2⟩
    · rw [if_neg hc]; exact ⟨M2, by simp [hc, b2i], g2⟩
