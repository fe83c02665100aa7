/-! ===== PURE PART: the words of lifted functions, read ===== -/
theorem zlet_eq {α β : Type} (x : α) (f : α → β) : zlet x f = f x := rfl
theorem zg_true {ρ : Type} {b : Bool} {e : Option ρ} (h : b = true) : zg b e = e := by rw [h]; rfl
theorem zgP_some {ρ : Type} {o : Option Nat} {p : Nat} {E : Nat → Option ρ} (h : o = some p) (hp : zisPl p = true) : zgP o E = E p := by
  rw [h]; unfold zgP; dsimp only; rw [if_pos hp]
theorem zgC_some {ρ : Type} {o : Option Nat} {j : Nat} {e : Option ρ} (h : o = some j) : zgC o j e = e := by
  rw [h]; unfold zgC; dsimp only; rw [if_pos (by simp)]
theorem zcI_some {ρ : Type} {o : Option Int32} {v : Int32} {E : Int32 → Option ρ} (h : o = some v) : zcI o E = E v := by rw [h]; rfl
theorem zcL_some {ρ : Type} {o : Option Int64} {v : Int64} {E : Int64 → Option ρ} (h : o = some v) : zcL o E = E v := by rw [h]; rfl
theorem zcV_some {ρ : Type} {o : Option zM} {v : zM} {E : zM → Option ρ} (h : o = some v) : zcV o E = E v := by rw [h]; rfl
theorem zcIM_some {ρ : Type} {o : Option (Int32 × zM)} {v : Int32} {M' : zM} {E : Int32 → zM → Option ρ} (h : o = some (v, M')) : zcIM o E = E v M' := by rw [h]; rfl
theorem zcLM_some {ρ : Type} {o : Option (Int64 × zM)} {v : Int64} {M' : zM} {E : Int64 → zM → Option ρ} (h : o = some (v, M')) : zcLM o E = E v M' := by rw [h]; rfl
theorem zfix_succ {σ ρ : Type} (n : Nat) (B : (σ → Option ρ) → σ → Option ρ) (s : σ) : zfix (n + 1) B s = B (zfix n B) s := rfl
/-- a loop that goes n times -/
theorem zfix_for {σ ρ : Type} {B : (σ → Option ρ) → σ → Option ρ} (f : Nat → σ) (n : Nat) (hs : ∀ k, k < n → ∀ rc, B rc (f k) = rc (f (k + 1))) : ∀ (j N : Nat), j ≤ n → n - j < N → ∃ N', zfix N B (f j) = B (zfix N' B) (f n) := by
  intro j N hj hN
  induction h : n - j generalizing j N with
  | zero =>
    have e : j = n := by omega
    subst e
    cases N with
    | zero => omega
    | succ N => exact ⟨N, rfl⟩
  | succ d ih =>
    cases N with
    | zero => omega
    | succ N =>
      rw [zfix_succ, hs j (by omega)]
      exact ih (j + 1) N (by omega) (by omega) (by omega)
/-- .. and ends there -/
theorem zfix_run {σ ρ : Type} {B : (σ → Option ρ) → σ → Option ρ} (f : Nat → σ) (n : Nat) {r : Option ρ} {s0 : σ} (h0 : s0 = f 0) (hn : n < zFu) (hs : ∀ k, k < n → ∀ rc, B rc (f k) = rc (f (k + 1))) (he : ∀ rc, B rc (f n) = r) : zfix zFu B s0 = r := by
  obtain ⟨N', h⟩ := zfix_for f n hs 0 zFu (Nat.zero_le _) (by omega)
  rw [h0, h, he]
/-- a memory read behind a write -/
theorem zI_at {M : zM} {a i : Nat} {x : Int32} : (zI M a i x).1 a i = x := by simp [zI]
theorem zI_of {M : zM} {a i b j : Nat} {x : Int32} (h : ¬ (b = a ∧ j = i)) : (zI M a i x).1 b j = M.1 b j := by simp only [zI]; exact if_neg h
theorem zI_2 {M : zM} {a i : Nat} {x : Int32} : (zI M a i x).2 = M.2 := rfl
theorem zJ_at {M : zM} {a i : Nat} {x : Int64} : (zJ M a i x).2.1 a i = x := by simp [zJ]
theorem zJ_of {M : zM} {a i b j : Nat} {x : Int64} (h : ¬ (b = a ∧ j = i)) : (zJ M a i x).2.1 b j = M.2.1 b j := by simp only [zJ]; exact if_neg h
theorem zJ_1 {M : zM} {a i : Nat} {x : Int64} : (zJ M a i x).1 = M.1 := rfl
theorem zJ_22 {M : zM} {a i : Nat} {x : Int64} : (zJ M a i x).2.2 = M.2.2 := rfl
theorem zF_1 {M : zM} {a i x : Nat} : (zF M a i x).1 = M.1 := rfl
theorem zF_21 {M : zM} {a i x : Nat} : (zF M a i x).2.1 = M.2.1 := rfl
/-! counters -/
theorem nI_cl {k : Nat} (h : k < 2 ^ 31) : (nI k).toNatClampNeg = k := nI_clamp h
theorem zok_nI {k n : Nat} (h : k < n) (hn : n < 2 ^ 31) : zok (nI k) n = true := by
  unfold zok
  rw [nI_cl (by omega)]
  simp only [Bool.and_eq_true, Bool.not_eq_true', decide_eq_false_iff_not, decide_eq_true_eq]
  exact ⟨nI_pos (by omega), h⟩
def bcnt (f : Nat → Bool) : Nat → Nat
  | 0 => 0
  | n + 1 => bcnt f n + (if f n then 1 else 0)
theorem bcnt_le (f : Nat → Bool) (n : Nat) : bcnt f n ≤ n := by
  induction n with
  | zero => exact Nat.le_refl 0
  | succ n ih => unfold bcnt; split <;> omega
theorem bcnt_congr {f g : Nat → Bool} {n : Nat} (h : ∀ k, k < n → f k = g k) : bcnt f n = bcnt g n := by
  induction n with
  | zero => rfl
  | succ n ih => unfold bcnt; rw [ih (fun k hk => h k (by omega)), h n (by omega)]
theorem nI_z : (0 : Int32) = nI 0 := nI_0.symm
theorem nI_lit8 : (8 : Int32) = nI 8 := by decide
theorem nI_lit6 : (6 : Int32) = nI 6 := by decide
theorem nI_lit10 : (10 : Int32) = nI 10 := by decide
theorem s_thingsThatAre {w p T : Nat} {x : Int32} {M : zM} (hp : M.2.2 w 0 = some p) (hl : zisPl p = true) (hT : M.1 p 5 = nI T) (h8 : T ≤ 8) :
    gX8_thingsThatAre w x M = some (nI (bcnt (fun t => M.1 (w + 8) t == x) T)) := by
  unfold gX8_thingsThatAre
  refine zfix_run (fun k => (nI (bcnt (fun t => M.1 (w + 8) t == x) k), nI k)) T ?_ (by unfold zFu; omega) ?_ ?_
  · simp [bcnt, nI_0]
  · intro k hk rc
    unfold gX8_thingsThatAre_L4
    rw [zgP_some hp hl, hT, if_neg (nI_ge hk (by omega)), nI_lit8, if_neg (nI_ge (by omega) (by omega)), zg_true (zok_nI (by omega) (by omega)), nI_cl (by omega)]
    by_cases h : M.1 (w + 8) k = x
    · rw [if_pos h, nI_1, nI_1]
      simp [bcnt, h]
    · rw [if_neg h, nI_1]
      simp [bcnt, h]
  · intro rc
    unfold gX8_thingsThatAre_L4
    rw [zgP_some hp hl, hT, if_pos (nI_le (Nat.le_refl _) (by omega))]
