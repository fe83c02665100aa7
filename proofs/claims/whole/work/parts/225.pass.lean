/-! a STEP of the class's world -/
def sSends (P : AV) (LW : Nat → Option (List (Int32 × Int32))) (n T : Nat) (V : AV) (wi : Int32) : Nat → AV × Int32
  | 0 => (V, wi)
  | k + 1 => sSend P (sSends P LW n T V wi k).1 LW n T ((sSends P LW n T V wi k).1 1 k).toNatClampNeg (sSends P LW n T V wi k).2
def sMoves (P : AV) (LW : Nat → Option (List (Int32 × Int32))) (wy : Int32) (V : AV) : Nat → AV
  | 0 => V
  | k + 1 => sMove P (sMoves P LW wy V k) LW wy ((sMoves P LW wy V k) 1 k).toNatClampNeg
def sPass (P : AV) (LW : Nat → Option (List (Int32 × Int32))) (n T L : Nat) (wy : Int32) (V : AV) : AV × Int32 :=
  let V1 := if wy &&& 16 = 0 then sPays P V L else V
  let s := sSends P LW n T V1 0 n
  let V3 := sMoves P LW wy s.1 n
  let V4 := if wy &&& 8 = 0 then sBurns V3 T else V3
  let V5 := sGrow P V4 wy
  (vset V5 0 10 (V5 0 10 + 1), s.2)
/-! what a STEP leaves as it was -/
theorem vset_row {V : AV} {c k c' : Nat} {x : Int32} (h : c' ≠ c) : vset V c k x c' = V c' := by
  funext k'; exact vset_ne (fun z => h z.1)
theorem sPay_row {P V : AV} {k c : Nat} (h0 : c ≠ 0) (h3 : c ≠ 3) : sPay P V k c = V c := by
  unfold sPay
  repeat' split
  · rw [vset_row h3, vset_row h0]
  · rw [vset_row h0]
  · rfl
theorem sPays_row {P V : AV} {c : Nat} (h0 : c ≠ 0) (h3 : c ≠ 3) (k : Nat) : sPays P V k c = V c := by
  induction k with
  | zero => rfl
  | succ k ih => unfold sPays; rw [sPay_row h0 h3, ih]
theorem sSend_rk {P V : AV} {LW : Nat → Option (List (Int32 × Int32))} {n T m : Nat} {wi : Int32} : (sSend P V LW n T m wi).1 1 = V 1 := by
  unfold sSend
  repeat' split
  all_goals first | rfl | (dsimp only; rw [vset_row (by decide), vset_row (by decide), vset_row (by decide)])
theorem sSends_rk {P V : AV} {LW : Nat → Option (List (Int32 × Int32))} {n T : Nat} {wi : Int32} (k : Nat) : (sSends P LW n T V wi k).1 1 = V 1 := by
  induction k with
  | zero => rfl
  | succ k ih => unfold sSends; rw [sSend_rk, ih]
theorem sSend_go {P V : AV} {LW : Nat → Option (List (Int32 × Int32))} {n T m : Nat} {wi : Int32} (h : vGo V n T) : vGo (sSend P V LW n T m wi).1 n T := by
  unfold sSend
  by_cases h4 : V 4 m = 0
  · rw [if_pos h4]
    by_cases h7 : V 7 m = 0
    · rw [if_pos h7]
      cases hf : sFree V n T with
      | none => exact h
      | some t =>
        dsimp only
        by_cases hd : sDares P V LW m t 0 = true
        · rw [if_pos hd]
          intro k hk h1
          dsimp only at h1 ⊢
          by_cases e : k = m
          · subst e
            exact ⟨t, sFree_lt hf, by rw [vset_ne (by omega), vset_at]⟩
          · rw [vset_ne (by omega), vset_ne (by omega), vset_ne (by omega)] at h1
            obtain ⟨u, hu, hu2⟩ := h k hk h1
            exact ⟨u, hu, by rw [vset_ne (by omega), vset_ne (by omega), vset_ne (by omega)]; exact hu2⟩
        · rw [if_neg hd]; exact h
    · rw [if_neg h7]; exact h
  · rw [if_neg h4]; exact h
theorem sSends_go {P V : AV} {LW : Nat → Option (List (Int32 × Int32))} {n T : Nat} {wi : Int32} (h : vGo V n T) (k : Nat) : vGo (sSends P LW n T V wi k).1 n T := by
  induction k with
  | zero => exact h
  | succ k ih => unfold sSends; exact sSend_go ih
theorem sLeave_rk {V : AV} {m : Nat} {x : Int32} : sLeave V m x 1 = V 1 := by
  unfold sLeave
  rw [vset_row (by decide), vset_row (by decide), vset_row (by decide)]
theorem sSave1_row {P V : AV} {t c : Nat} (h0 : c ≠ 0) (h8 : c ≠ 8) : sSave1 P V t c = V c := by
  unfold sSave1
  rw [vset_row h0, vset_row h8]
theorem sSave_row {P V : AV} {LW : Nat → Option (List (Int32 × Int32))} {m t c : Nat} (h0 : c ≠ 0) (h8 : c ≠ 8) (h2 : c ≠ 2) : sSave P V LW m t c = V c := by
  unfold sSave
  cases sLaw LW 1 (sFacts P (sSave1 P V t) m (some t) 0) with
  | none => exact sSave1_row h0 h8
  | some v =>
    show vset (sSave1 P V t) 2 m (sRue (V 2 m) (sClamp v)) c = V c
    rw [vset_row h2, sSave1_row h0 h8]
theorem sMove_rk {P V : AV} {LW : Nat → Option (List (Int32 × Int32))} {wy : Int32} {m : Nat} : sMove P V LW wy m 1 = V 1 := by
  unfold sMove
  split
  · unfold sMove1
    try dsimp only
    repeat' split
    all_goals (try rw [sSave_row (by decide) (by decide) (by decide)])
    all_goals (try rw [vset_row (by decide)])
    all_goals (try rw [sLeave_rk])
    all_goals (try rw [vset_row (by decide)])
    all_goals (try rw [vset_row (by decide)])
  · rfl
theorem sMoves_rk {P V : AV} {LW : Nat → Option (List (Int32 × Int32))} {wy : Int32} (k : Nat) : sMoves P LW wy V k 1 = V 1 := by
  induction k with
  | zero => rfl
  | succ k ih => unfold sMoves; rw [sMove_rk, ih]
/-- rows 4 and 5 but at m -/
theorem sMove_45 {P V : AV} {LW : Nat → Option (List (Int32 × Int32))} {wy : Int32} {m k c : Nat} (hc : c = 4 ∨ c = 5) (hk : k ≠ m) : sMove P V LW wy m c k = V c k := by
  have l : ∀ (U : AV) (x : Int32), sLeave U m x c k = U c k := fun U x => by
    unfold sLeave
    rw [vset_ne (by omega), vset_ne (by omega), vset_ne (by omega)]
  unfold sMove
  split
  · unfold sMove1
    try dsimp only
    repeat' split
    all_goals (try rw [sSave_row (by omega) (by omega) (by omega)])
    all_goals (try rw [l])
    all_goals (try rw [vset_ne (by omega)])
    all_goals (try rw [l])
    all_goals (try rw [vset_ne (by omega)])
    all_goals (try rw [vset_ne (by omega)])
  · rfl
theorem sMove_go {P V : AV} {LW : Nat → Option (List (Int32 × Int32))} {wy : Int32} {n T m : Nat} (h : vGo V n T) (hm : m < n) : vGo (sMove P V LW wy m) n T := by
  intro k hk h1
  by_cases e : k = m
  · subst e
    unfold sMove at h1 ⊢
    by_cases h4 : V 4 k = 1
    · obtain ⟨t, ht, ht2⟩ := h k hk h4
      rw [if_pos h4] at h1 ⊢
      refine ⟨t, ht, ?_⟩
      have l4 : ∀ (U : AV) (x : Int32), sLeave U k x 4 k = x := fun U x => by
        unfold sLeave
        rw [vset_ne (by omega), vset_ne (by omega), vset_at]
      unfold sMove1 at h1 ⊢
      try dsimp only at h1 ⊢
      repeat' (split at h1)
      all_goals (try rw [sSave_row (by decide) (by decide) (by decide)] at h1)
      all_goals (try rw [l4] at h1)
      all_goals (try (rw [vset_ne (by omega), l4] at h1))
      all_goals first
        | exact absurd h1 (by decide)
        | (simp only [*, if_true, if_false] at *; done)
        | skip
      all_goals (repeat' split)
      all_goals first
        | (exfalso; simp_all; done)
        | (rw [vset_ne (by omega), vset_ne (by omega), vset_ne (by omega)]; exact ht2)
        | (rw [vset_ne (by omega), vset_ne (by omega)]; exact ht2)
    · rw [if_neg h4] at h1
      exact absurd h1 h4
  · rw [sMove_45 (Or.inl rfl) e] at h1
    rw [sMove_45 (Or.inr rfl) e]
    exact h k hk h1
