/-! what a STEP keeps to -/
theorem sSend_in {P V : AV} {LW : Nat → Option (List (Int32 × Int32))} {n T m : Nat} {wi : Int32} (h : vIn P V n T) (hd : pDp P T) : vIn P (sSend P V LW n T m wi).1 n T := by
  unfold sSend
  by_cases h4 : V 4 m = 0
  · rw [if_pos h4]
    by_cases h7 : V 7 m = 0
    · rw [if_pos h7]
      cases hf : sFree V n T with
      | none => exact h
      | some t =>
        dsimp only
        by_cases hdr : sDares P V LW m t 0 = true
        · rw [if_pos hdr]
          intro k hk h1
          dsimp only at h1 ⊢
          by_cases e : k = m
          · subst e
            obtain ⟨d, d1, d2, d3⟩ := hd t (sFree_lt hf)
            exact ⟨t, 0, d, sFree_lt hf, by rw [vset_ne (by omega), vset_at], by rw [vset_at, nI_0], d3, by omega, d2⟩
          · rw [vset_ne (by omega), vset_ne (by omega), vset_ne (by omega)] at h1
            obtain ⟨u, i, d, u1, u2, u3, u4⟩ := h k hk h1
            exact ⟨u, i, d, u1, by rw [vset_ne (by omega), vset_ne (by omega), vset_ne (by omega)]; exact u2, by rw [vset_ne (by omega), vset_ne (by omega), vset_ne (by omega)]; exact u3, u4⟩
        · rw [if_neg hdr]; exact h
    · rw [if_neg h7]; exact h
  · rw [if_neg h4]; exact h
theorem sSend_2 {P V : AV} {LW : Nat → Option (List (Int32 × Int32))} {n T m : Nat} {wi : Int32} : (sSend P V LW n T m wi).1 2 = V 2 := by
  unfold sSend
  repeat' split
  all_goals first | rfl | (dsimp only; rw [vset_row (by decide), vset_row (by decide), vset_row (by decide)])
theorem sSends_in {P V : AV} {LW : Nat → Option (List (Int32 × Int32))} {n T : Nat} {wi : Int32} (h : vIn P V n T) (hd : pDp P T) (k : Nat) : vIn P (sSends P LW n T V wi k).1 n T := by
  induction k with
  | zero => exact h
  | succ k ih => unfold sSends; exact sSend_in ih hd
theorem sSends_2 {P V : AV} {LW : Nat → Option (List (Int32 × Int32))} {n T : Nat} {wi : Int32} (k : Nat) : (sSends P LW n T V wi k).1 2 = V 2 := by
  induction k with
  | zero => rfl
  | succ k ih => unfold sSends; rw [sSend_2, ih]
theorem sRue_rng (r x : Int32) : ∃ q : Nat, q ≤ 99 ∧ sRue r x = nI q := by
  have i0 : (0 : Int32).toInt = 0 := by decide
  have i99 : (99 : Int32).toInt = 99 := by decide
  have key : ∀ y : Int32, 0 ≤ y.toInt → y.toInt ≤ 99 → ∃ q : Nat, q ≤ 99 ∧ y = nI q := fun y h1 h2 => ⟨y.toInt.toNat, by omega, Int32.toInt_inj.mp (by rw [nI_toInt (by omega)]; omega)⟩
  unfold sRue
  by_cases h1 : (r + x) < 99
  · rw [if_pos h1]
    by_cases h2 : 0 < r + x
    · rw [if_pos h2]
      rw [Int32.lt_iff_toInt_lt] at h1 h2
      rw [i99] at h1
      rw [i0] at h2
      exact key _ (by omega) (by omega)
    · rw [if_neg h2]; exact ⟨0, by omega, nI_0.symm⟩
  · rw [if_neg h1, if_pos (by decide)]
    exact ⟨99, by omega, by decide⟩
theorem sSave_ru {P V : AV} {LW : Nat → Option (List (Int32 × Int32))} {n m t : Nat} (h : vRu V n) : vRu (sSave P V LW m t) n := by
  intro k hk
  unfold sSave
  cases sLaw LW 1 (sFacts P (sSave1 P V t) m (some t) 0) with
  | none =>
    show ∃ r : Nat, r ≤ 99 ∧ sSave1 P V t 2 k = nI r
    rw [sSave1_row (by decide) (by decide)]
    exact h k hk
  | some v =>
    show ∃ r : Nat, r ≤ 99 ∧ vset (sSave1 P V t) 2 m (sRue (V 2 m) (sClamp v)) 2 k = nI r
    by_cases e : k = m
    · subst e; rw [vset_at]; exact sRue_rng _ _
    · rw [vset_ne (by omega), sSave1_row (by decide) (by decide)]; exact h k hk
theorem vRu_row {V V' : AV} {n : Nat} (h : vRu V n) (e : V' 2 = V 2) : vRu V' n := fun k hk => by rw [e]; exact h k hk
theorem sLeave_row {V : AV} {m c : Nat} {x : Int32} (h4 : c ≠ 4) (h5 : c ≠ 5) (h6 : c ≠ 6) : sLeave V m x c = V c := by
  unfold sLeave
  rw [vset_row h6, vset_row h5, vset_row h4]
theorem sMove_ru {P V : AV} {LW : Nat → Option (List (Int32 × Int32))} {wy : Int32} {n m : Nat} (h : vRu V n) : vRu (sMove P V LW wy m) n := by
  unfold sMove
  by_cases h4 : V 4 m = 1
  · rw [if_pos h4]
    unfold sMove1
    have e2 : ∀ x, (vset (vset V 6 m (V 6 m + 1)) 0 14 x) 2 = V 2 := fun x => by rw [vset_row (by decide), vset_row (by decide)]
    have l2 : ∀ x y, (sLeave (vset (vset V 6 m (V 6 m + 1)) 0 14 x) m y) 2 = V 2 := fun x y => by rw [sLeave_row (by decide) (by decide) (by decide), e2]
    try dsimp only
    generalize sHurt P (vset V 6 m (V 6 m + 1)) LW wy m (V 5 m).toNatClampNeg = hu
    obtain ⟨hb, hx⟩ := hu
    try dsimp only
    cases hb with
    | true =>
      rw [if_pos rfl]
      by_cases c1 : (sLeave (vset (vset V 6 m (V 6 m + 1)) 0 14 hx) m 2) 8 (V 5 m).toNatClampNeg = 1
      · rw [if_pos c1]; exact vRu_row h (by rw [vset_row (by decide), l2])
      · rw [if_neg c1]; exact vRu_row h (l2 _ _)
    | false =>
      rw [if_neg (show ¬ false = true by decide)]
      by_cases c2 : vset (vset V 6 m (V 6 m + 1)) 0 14 hx 6 m = P 7 (V 5 m).toNatClampNeg
      · rw [if_pos c2]
        by_cases c3 : vset (vset V 6 m (V 6 m + 1)) 0 14 hx 8 (V 5 m).toNatClampNeg = 0
        · rw [if_pos c3]; exact vRu_row h (by rw [vset_row (by decide), e2])
        · rw [if_neg c3]; exact vRu_row h (e2 _)
      · rw [if_neg c2]
        by_cases c3 : vset (vset V 6 m (V 6 m + 1)) 0 14 hx 6 m = 2 * P 7 (V 5 m).toNatClampNeg
        · rw [if_pos c3]
          by_cases c4 : (sLeave (vset (vset V 6 m (V 6 m + 1)) 0 14 hx) m 0) 8 (V 5 m).toNatClampNeg = 1
          · rw [if_pos c4]; exact sSave_ru (vRu_row h (l2 _ _))
          · rw [if_neg c4]; exact vRu_row h (l2 _ _)
        · rw [if_neg c3]; exact vRu_row h (e2 _)
  · rw [if_neg h4]; exact h
theorem sMove_6 {P V : AV} {LW : Nat → Option (List (Int32 × Int32))} {wy : Int32} {m k : Nat} (hk : k ≠ m) : sMove P V LW wy m 6 k = V 6 k := by
  have l : ∀ (U : AV) (x : Int32), sLeave U m x 6 k = U 6 k := fun U x => by
    unfold sLeave
    rw [vset_ne (by omega), vset_ne (by omega), vset_ne (by omega)]
  unfold sMove
  split
  · unfold sMove1
    try dsimp only
    repeat' split
    all_goals (try rw [sSave_row (by omega) (by omega) (by omega)])
    all_goals (try rw [l])
    all_goals (try rw [vset_ne (by omega)])
    all_goals (try rw [l])
    all_goals (try rw [vset_ne (by omega)])
    all_goals (try rw [vset_ne (by omega)])
  · rfl
theorem sMove_in {P V : AV} {LW : Nat → Option (List (Int32 × Int32))} {wy : Int32} {n T m : Nat} (hT : T ≤ 8) (h : vIn P V n T) : vIn P (sMove P V LW wy m) n T := by
  intro k hk h1
  by_cases e : k = m
  · subst e
    by_cases h4 : V 4 k = 1
    · obtain ⟨t, i, d, u1, u2, u3, u4, u5, u6⟩ := h k hk h4
      have l4 : ∀ (U : AV) (x : Int32), sLeave U k x 4 k = x := fun U x => by
        unfold sLeave
        rw [vset_ne (by omega), vset_ne (by omega), vset_at]
      unfold sMove at h1 ⊢
      rw [if_pos h4] at h1 ⊢
      have hcl : (V 5 k).toNatClampNeg = (nI t).toNatClampNeg := by rw [u2]
      have tl : t < 2 ^ 31 := by omega
      unfold sMove1 at h1 ⊢
      try dsimp only at h1 ⊢
      generalize sHurt P (vset V 6 k (V 6 k + 1)) LW wy k (V 5 k).toNatClampNeg = hu at h1 ⊢
      obtain ⟨hb, hx⟩ := hu
      try dsimp only at h1 ⊢
      have a6 : vset (vset V 6 k (V 6 k + 1)) 0 14 hx 6 k = nI (i + 1) := by rw [vset_ne (by omega), vset_at, u3, nI_1]
      have a5 : vset (vset V 6 k (V 6 k + 1)) 0 14 hx 5 k = nI t := by rw [vset_ne (by omega), vset_ne (by omega), u2]
      rw [a6] at h1 ⊢
      rw [hcl, nI_cl tl, u4, nI_2d] at h1 ⊢
      cases hb with
      | true =>
        rw [if_pos rfl] at h1
        exfalso
        split at h1
        · rw [vset_ne (by omega), l4] at h1; exact absurd h1 (by decide)
        · rw [l4] at h1; exact absurd h1 (by decide)
      | false =>
        rw [if_neg (show ¬ false = true by decide)] at h1 ⊢
        by_cases hd : i + 1 = d
        · rw [if_pos (show nI (i + 1) = nI d by rw [hd])] at h1 ⊢
          refine ⟨t, i + 1, d, u1, ?_, ?_, u4, by omega, u6⟩
          · split
            · rw [vset_ne (by omega), a5]
            · exact a5
          · split
            · rw [vset_ne (by omega), a6]
            · exact a6
        · rw [if_neg (show ¬ nI (i + 1) = nI d by rw [nI_eq (by omega) (by omega)]; exact hd)] at h1 ⊢
          by_cases h2 : i + 1 = 2 * d
          · rw [if_pos (show nI (i + 1) = nI (2 * d) by rw [h2])] at h1
            exfalso
            split at h1
            · rw [sSave_row (by decide) (by decide) (by decide), l4] at h1; exact absurd h1 (by decide)
            · rw [l4] at h1; exact absurd h1 (by decide)
          · rw [if_neg (show ¬ nI (i + 1) = nI (2 * d) by rw [nI_eq (by omega) (by omega)]; exact h2)] at h1 ⊢
            exact ⟨t, i + 1, d, u1, a5, a6, u4, by omega, u6⟩
    · unfold sMove at h1
      rw [if_neg h4] at h1
      exact absurd h1 h4
  · rw [sMove_45 (Or.inl rfl) e] at h1
    rw [sMove_45 (Or.inr rfl) e, sMove_6 e]
    exact h k hk h1
