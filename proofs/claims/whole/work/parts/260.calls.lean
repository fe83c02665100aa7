/-! ===== the calls ===== -/
theorem nI_ne_m1 {k : Nat} (h : k < 2 ^ 31) : ¬ nI k = -1 := fun e => by
  have h' := congrArg Int32.toInt e
  rw [nI_toInt h] at h'
  have : (-1 : Int32).toInt = -1 := by decide
  omega
theorem nI_lt_iff {a b : Nat} (ha : a < 2 ^ 31) (hb : b < 2 ^ 31) : nI a < nI b ↔ a < b := by
  rw [Int32.lt_iff_toInt_lt, nI_toInt ha, nI_toInt hb]; omega
theorem nI_le_iff {a b : Nat} (ha : a < 2 ^ 31) (hb : b < 2 ^ 31) : nI a ≤ nI b ↔ a ≤ b := by
  rw [Int32.le_iff_toInt_le, nI_toInt ha, nI_toInt hb]; omega
theorem nI_nn {k : Nat} (h : k < 2 ^ 31) : (0 : Int32) ≤ nI k := Int32.not_lt.mp (nI_pos h)
theorem MR.z {M : zM} {q : PPt} {V : AV} {I : Option AV} {D : Nat × (Nat → AV)} {S : SSt} {B : Nat × (Nat → Int32)} {F : Int32 × Int32} {y : Int32} (h : MR M q V I D S B F) : MR (zI M 98 0 y) q V I D S B F := h.mono (fun a i d => zI_of (by unfold dM at d; omega))
theorem CR.z {M : zM} {q : PPt} {V : AV} {I : Option AV} {D : Nat × (Nat → AV)} {S : SSt} {B : Nat × (Nat → Int32)} {F : Int32 × Int32} {y : Int32} (h : CR M q V I D S B F) : CR (zI M 98 0 y) q V I D S B F := h.mono (fun a i d _ => zI_of (by unfold dC at d; omega)) (fun _ _ _ => rfl)
theorem Rel.z {M : zM} {y : Int32} (h : Rel M) : Rel (zI M 98 0 y) := by
  obtain ⟨q, V, I, D, S, B, F, hA, hC, hM⟩ := h
  exact ⟨q, V, I, D, S, B, F, hA, hC.z, hM.z⟩
def isM (n : Nat) (x : Int32) : Int32 := if x < 0 then 0 else if nI n ≤ x then 0 else 1
theorem isM_cases {n : Nat} (hn : n < 100) (x : Int32) : isM n x = 0 ∨ (isM n x = 1 ∧ ∃ m, m < n ∧ x = nI m) := by
  unfold isM
  by_cases h0 : x < 0
  · left; rw [if_pos h0]
  · rw [if_neg h0]
    by_cases h1 : nI n ≤ x
    · left; rw [if_pos h1]
    · right; rw [if_neg h1]; exact ⟨rfl, man_of hn h0 h1⟩
theorem CR.man {M : zM} {q : PPt} {V : AV} {I : Option AV} {D : Nat × (Nat → AV)} {S : SSt} {B : Nat × (Nat → Int32)} {F : Int32 × Int32} (h : CR M q V I D S B F) (x : Int32) : gX9_isMan x M = some (isM q.1 x) := by
  obtain ⟨p, h1, h2, _⟩ := h
  unfold gX9_isMan isM
  by_cases h0 : x < 0
  · rw [if_pos h0, if_pos h0]
  · rw [if_neg h0, if_neg h0, zgP_some h1.1 h2.1.1, h2.1.2.1.1]
    split <;> rfl
theorem CR.thing {M : zM} {q : PPt} {V : AV} {I : Option AV} {D : Nat × (Nat → AV)} {S : SSt} {B : Nat × (Nat → Int32)} {F : Int32 × Int32} (h : CR M q V I D S B F) (x : Int32) : gX9_isThing x M = some (isM q.2.1 x) := by
  obtain ⟨p, h1, h2, _⟩ := h
  unfold gX9_isThing isM
  by_cases h0 : x < 0
  · rw [if_pos h0, if_pos h0]
  · rw [if_neg h0, if_neg h0, zgP_some h1.1 h2.1.1, h2.1.2.2.1.1]
    split <;> rfl
theorem mPl.man {M : zM} {q : PPt} (h : mPl M q) (x : Int32) : gX10_isMan x M = some (isM q.1 x) := by
  unfold gX10_isMan isM
  by_cases h0 : x < 0
  · rw [if_pos h0, if_pos h0]
  · rw [if_neg h0, if_neg h0, cl0, h.1.1.1]
    split <;> rfl
theorem mPl.thing {M : zM} {q : PPt} (h : mPl M q) (x : Int32) : gX10_isThing x M = some (isM q.2.1 x) := by
  unfold gX10_isThing isM
  by_cases h0 : x < 0
  · rw [if_pos h0, if_pos h0]
  · rw [if_neg h0, if_neg h0, cl1, h.1.2.1.1]
    split <;> rfl
/-! fault -/
theorem k_fault {M : zM} (h : Rel M) (x : Int32) : ∃ r M2, gX9_fault x M = some r ∧ gX10_fault x M = some (r, M2) ∧ Rel M2 := by
  have h' := h
  obtain ⟨q, V, I, D, S, B, F, hA, ⟨p, c1, c2, c3, c4, c5, c6, c7, c8⟩, hM⟩ := h
  obtain ⟨m1, m2, m3, m4, m5, m6, m7, m8⟩ := hM.z (y := 0)
  unfold gX9_fault gX10_fault
  rw [zlet_eq, m8.1, m8.2, c8.1, c8.2]
  by_cases h0 : x = 0
  · rw [if_pos h0, if_pos h0]; exact ⟨_, _, rfl, rfl, h'.z⟩
  · rw [if_neg h0, if_neg h0]
    by_cases h1 : x = 1
    · rw [if_pos h1, if_pos h1]; exact ⟨_, _, rfl, rfl, h'.z⟩
    · rw [if_neg h1, if_neg h1]; exact ⟨_, _, rfl, rfl, h'.z⟩
/-! named -/
theorem r_found {a n0 d n : Nat} {x : Int32} {M : zM} (h : d + n ≤ n0) (h0 : n0 < 100000) : gX10_found a n0 (nI d) (nI n) x M = some (oN (ffst (fun k => M.1 a (d + k) == x) n)) := by
  unfold gX10_found
  rw [zfix_find (B := gX10_found_L3 a n0 (nI d) (nI n) x M) (fun k => nI k) (fun k => M.1 a (d + k) == x) (fun k => some (nI k)) (some (-1)) n nI_0.symm (by unfold zFu; omega) ?_ ?_ ?_]
  · cases ffst (fun k => M.1 a (d + k) == x) n <;> rfl
  · intro k hk hp rc
    unfold gX10_found_L3
    rw [if_neg (nI_ge hk (by omega)), nI_add, zg_true (zok_nI (show d + k < n0 by omega) (by omega)), nI_cl (by omega), if_neg (by simpa using hp), nI_1]
  · intro k hk hp rc
    unfold gX10_found_L3
    rw [if_neg (nI_ge hk (by omega)), nI_add, zg_true (zok_nI (show d + k < n0 by omega) (by omega)), nI_cl (by omega), if_pos (by simpa using hp)]
  · intro rc
    unfold gX10_found_L3
    rw [if_pos (nI_le (Nat.le_refl _) (by omega))]
theorem k_named {M : zM} (h : Rel M) (x y : Int32) : ∃ r M2, gX9_named x y M = some r ∧ gX10_named x y M = some (r, M2) ∧ Rel M2 := by
  have h' := h
  obtain ⟨q, V, I, D, S, B, F, hA, ⟨p, c1, c2, c3, c4, c5, c6, c7, c8⟩, hM⟩ := h
  obtain ⟨m1, m2, m3, m4, m5, m6, m7, m8⟩ := hM.z (y := 0)
  obtain ⟨n, T, L, P, LW, kn⟩ := q
  obtain ⟨hP, e2, e3, e4⟩ := c2
  obtain ⟨hPl, hn, hT, hL, hl⟩ := hP
  obtain ⟨hM, k2, k3, k4⟩ := m2
  dsimp only at *
  unfold gX9_named gX10_named
  rw [zlet_eq, cl0, cl1, hM.1.1, hM.2.1.1, nI_z]
  by_cases h0 : x = nI 0
  · rw [if_pos h0, if_pos h0, zgP_some c1.1 hPl, zgP_some c1.1 hPl, hn.1, zcI_some (s_find (by omega) (by omega)), zcI_some (r_found (by omega) (by omega))]
    have e : ffst (fun k => M.1 (p + 1) k == y) n = ffst (fun k => (zI M 98 0 0).1 101 (0 + k) == y) n := by
      apply ffst_congr
      intro k hk
      have z1 : P 1 k = M.1 (p + 1) k := by rw [← e2]; exact pC_at (pdN (by omega) (by omega) hk)
      have z2 : P 1 k = (zI M 98 0 0).1 101 k := by rw [← k2]; exact pM_at (c := 1) (pdN (by omega) (by omega) hk)
      rw [Nat.zero_add, ← z1, ← z2]
    rw [e]
    exact ⟨_, _, rfl, rfl, h'.z⟩
  · rw [if_neg h0, if_neg h0]
    by_cases h1 : x = 1
    · rw [if_pos h1, if_pos h1, zgP_some c1.1 hPl, zgP_some c1.1 hPl, hT.1, zcI_some (s_find (by omega) (by omega)), zcI_some (r_found (by omega) (by omega))]
      have e : ffst (fun k => M.1 (p + 5) k == y) T = ffst (fun k => (zI M 98 0 0).1 105 (0 + k) == y) T := by
        apply ffst_congr
        intro k hk
        have z1 : P 5 k = M.1 (p + 5) k := by rw [← e2]; exact pC_at (pdT (by omega) (by omega) hk)
        have z2 : P 5 k = (zI M 98 0 0).1 105 k := by rw [← k2]; exact pM_at (c := 5) (pdT (by omega) (by omega) hk)
        rw [Nat.zero_add, ← z1, ← z2]
      rw [e]
      exact ⟨_, _, rfl, rfl, h'.z⟩
    · rw [if_neg h1, if_neg h1]; exact ⟨_, _, rfl, rfl, h'.z⟩
/-! thing -/
theorem oN_oT (o : Option Nat) (M : zM) (h : ∀ t, o = some t → t < 2 ^ 31) : gX10_orNone (oN o) M = some (oT o) := by
  unfold gX10_orNone
  cases o with
  | none => rfl
  | some t =>
    show (if nI t = -1 then some (-2) else some (nI t)) = some (nI t)
    rw [if_neg]
    intro e
    have h' := congrArg Int32.toInt e
    rw [nI_toInt (h t rfl)] at h'
    have : (-1 : Int32).toInt = -1 := by decide
    omega
theorem k_thing {M : zM} (h : Rel M) (x y : Int32) : ∃ r M2, gX9_thing x y M = some r ∧ gX10_thing x y M = some (r, M2) ∧ Rel M2 := by
  have h' := h
  obtain ⟨q, V, I, D, S, B, F, hA, hC, hM⟩ := h
  have hi1 := hC.thing x
  have hi2 := (hM.z (y := 0)).2.1.thing x
  obtain ⟨p, c1, c2, c3, c4, c5, c6, c7, c8⟩ := hC
  obtain ⟨m1, m2, m3, m4, m5, m6, m7, m8⟩ := hM.z (y := 0)
  obtain ⟨n, T, L, P, LW, kn⟩ := q
  obtain ⟨hP, e2, e3, e4⟩ := c2
  have hP' := hP
  obtain ⟨hPl, hn, hT, hL, hl⟩ := hP
  obtain ⟨hM, k2, k3, k4⟩ := m2
  unfold cV at c3
  unfold mV at m3
  dsimp only at *
  unfold gX9_thing gX10_thing
  rw [zlet_eq, zcI_some hi1, zcI_some hi2]
  rcases isM_cases (n := T) (by omega) x with hx | ⟨hx, t, ht, rfl⟩
  · rw [hx, if_pos rfl, if_pos rfl]; exact ⟨_, _, rfl, rfl, h'.z⟩
  · rw [hx, if_neg (show ¬ (1 : Int32) = 0 by decide), if_neg (show ¬ (1 : Int32) = 0 by decide), nI_cl (by omega)]
    have q8 : ∀ e : Option Int32, zg (zok (nI t) 8) e = e := fun e => zg_true (zok_nI (show t < 8 by omega) (by omega))
    have q16 : ∀ e : Option (Int32 × zM), zg (zok (nI t) 16) e = e := fun e => zg_true (zok_nI (show t < 16 by omega) (by omega))
    have q184 : ∀ e : Option (Int32 × zM), zg (zok (nI t) 184) e = e := fun e => zg_true (zok_nI (show t < 184 by omega) (by omega))
    simp only [q8, q16, q184]
    have z1 : ∀ c, 5 ≤ c → c ≤ 8 → M.1 (p + c) t = P c t := fun c h1 h2 => by rw [← e2]; exact (pC_at (pdT h1 h2 ht)).symm
    have z2 : ∀ c, 5 ≤ c → c ≤ 8 → (zI M 98 0 0).1 (pa c t).1 (pa c t).2 = P c t := fun c h1 h2 => by rw [← k2]; exact (pM_at (pdT h1 h2 ht)).symm
    have w1 : ∀ c, 8 ≤ c → c ≤ 9 → M.1 (55 + c) t = V c t := fun c h1 h2 => by rw [← c3]; exact (vC_at (vdT h1 h2 ht)).symm
    have w2 : ∀ c, 8 ≤ c → c ≤ 9 → (zI M 98 0 0).1 (122 + c) (8 * 0 + t) = V c t := fun c h1 h2 => by rw [← m3]; exact (vM_t h1 h2 ht).symm
    by_cases h0 : y = 0
    · rw [if_pos h0, if_pos h0, zgP_some c1.1 hPl, z1 6 (by omega) (by omega), show (zI M 98 0 0).1 106 t = P 6 t from z2 6 (by omega) (by omega)]; exact ⟨_, _, rfl, rfl, h'.z⟩
    · rw [if_neg h0, if_neg h0]
      by_cases h1 : y = 1
      · rw [if_pos h1, if_pos h1, zgP_some c1.1 hPl, z1 7 (by omega) (by omega), show (zI M 98 0 0).1 107 t = P 7 t from z2 7 (by omega) (by omega)]; exact ⟨_, _, rfl, rfl, h'.z⟩
      · rw [if_neg h1, if_neg h1]
        by_cases h2 : y = 2
        · rw [if_pos h2, if_pos h2, w1 9 (by omega) (by omega)]
          have := w2 9 (by omega) (by omega)
          rw [Nat.mul_zero, Nat.zero_add] at this
          rw [this]; exact ⟨_, _, rfl, rfl, h'.z⟩
        · rw [if_neg h2, if_neg h2]
          by_cases h3 : y = 3
          · rw [if_pos h3, if_pos h3, w1 8 (by omega) (by omega)]
            have := w2 8 (by omega) (by omega)
            rw [Nat.mul_zero, Nat.zero_add] at this
            rw [this]; exact ⟨_, _, rfl, rfl, h'.z⟩
          · rw [if_neg h3, if_neg h3]
            by_cases h4 : y = 4
            · rw [if_pos h4, if_pos h4, zcI_some (s_goerFor (w := 55) ⟨Or.inl rfl, c1.2.1, hP'⟩), show gX10_goerOf 0 (nI t) (zI M 98 0 0) = gX10_goerOf (nI 0) (nI t) (zI M 98 0 0) from rfl, zcI_some (r_goer (f := 0) hM (by omega) (by omega)), c3, m3, zcI_some (oN_oT _ _ (fun k hk => by have := sGoer_lt hk; omega))]
              exact ⟨_, _, rfl, rfl, h'.z⟩
            · rw [if_neg h4, if_neg h4]; exact ⟨_, _, rfl, rfl, h'.z⟩
/-! count -/
theorem k_count {M : zM} (h : Rel M) (x : Int32) : ∃ r M2, gX9_count x M = some r ∧ gX10_count x M = some (r, M2) ∧ Rel M2 := by
  have h' := h
  obtain ⟨q, V, I, D, S, B, F, hA, hC, hM⟩ := h
  obtain ⟨p, c1, c2, c3, c4, c5, c6, c7, c8⟩ := hC
  obtain ⟨m1, m2, m3, m4, m5, m6, m7, m8⟩ := hM.z (y := 0)
  obtain ⟨n, T, L, P, LW, kn⟩ := q
  obtain ⟨hP, e2, e3, e4⟩ := c2
  have hW : WC M 55 p n T L := ⟨Or.inl rfl, c1.2.1, hP⟩
  obtain ⟨hPl, hn, hT, hL, hl⟩ := hP
  obtain ⟨hM, k2, k3, k4⟩ := m2
  unfold cV at c3
  unfold mV at m3
  dsimp only at *
  have z1 : ∀ k, 10 ≤ k → k ≤ 14 → M.1 55 k = V 0 k := fun k a b => by rw [← c3]; exact (vC_at (c := 0) (by simp [vdim]; omega)).symm
  have z2 : ∀ k, 10 ≤ k → k ≤ 14 → (zI M 98 0 0).1 (if k = 10 then 118 else if k = 11 then 120 else if k = 12 then 121 else if k = 13 then 122 else 119) 0 = V 0 k := fun k a b => by rw [← m3]; exact (vM_0 a b).symm
  have y10 := z2 10 (by omega) (by omega)
  have y11 := z2 11 (by omega) (by omega)
  have y12 := z2 12 (by omega) (by omega)
  have y13 := z2 13 (by omega) (by omega)
  simp only [if_true] at y10
  rw [if_neg (by omega), if_pos rfl] at y11
  rw [if_neg (by omega), if_neg (by omega), if_pos rfl] at y12
  rw [if_neg (by omega), if_neg (by omega), if_neg (by omega), if_pos rfl] at y13
  have t1 : ∀ a, gX8_thingsThatAre 55 a M = some (nI (bcnt (fun t => V 8 t == a) T)) := fun a => by rw [s_things hW, c3]
  have t2 : ∀ a, gX10_thingsOf 0 a (zI M 98 0 0) = some (nI (bcnt (fun t => V 8 t == a) T)) := fun a => by rw [show gX10_thingsOf 0 a (zI M 98 0 0) = gX10_thingsOf (nI 0) a (zI M 98 0 0) from rfl, r_things hM (by omega), m3]
  have u1 : ∀ a, gX8_menThatAre 55 a M = some (nI (bcnt (fun t => V 4 t == a) n)) := fun a => by rw [s_men hW, c3]
  have u2 : ∀ a, gX10_menOf 0 a (zI M 98 0 0) = some (nI (bcnt (fun t => V 4 t == a) n)) := fun a => by rw [show gX10_menOf 0 a (zI M 98 0 0) = gX10_menOf (nI 0) a (zI M 98 0 0) from rfl, r_men hM (by omega), m3]
  have v1 : gX8_savedWorth 55 M = some (sSaved P V T) := by rw [s_saved hW, c3, e2]
  have v2 : gX10_savedWorth 0 (zI M 98 0 0) = some (sSaved P V T) := by rw [show gX10_savedWorth 0 (zI M 98 0 0) = gX10_savedWorth (nI 0) (zI M 98 0 0) from rfl, r_saved hM (by omega), m3, k2]
  have fin : ∀ r : Int32, ∃ r' M2, some r = some r' ∧ some (r, zI M 98 0 0) = some (r', M2) ∧ Rel M2 := fun r => ⟨_, _, rfl, rfl, h'.z⟩
  unfold gX9_count gX10_count
  rw [zlet_eq, cl0, cl1, cl8, zgP_some c1.1 hPl, zgP_some c1.1 hPl, zgP_some c1.1 hPl, hn.1, hT.1, e4, hM.1.1, hM.2.1.1, k4, z1 10 (by omega) (by omega), z1 11 (by omega) (by omega), z1 12 (by omega) (by omega), z1 13 (by omega) (by omega), y10, y11, y12, y13, zcI_some (t1 2), zcI_some (t1 3), zcI_some (t2 2), zcI_some (t2 3), zcI_some (u1 2), zcI_some (u1 1), zcI_some (u2 2), zcI_some (u2 1), zcI_some v1, zcI_some v2, c6.1, m6.1, c5.1, m5.1]
  have ks : gX4_knownSize M = some (if 0 ≤ S.2.1 then S.2.1 else nI S.1) := by
    unfold gX4_knownSize
    rw [c6.1, c6.2.1]
    split <;> rfl
  have kr : gX10_knownMany (zI M 98 0 0) = some (if 0 ≤ S.2.1 then S.2.1 else nI S.1) := by
    unfold gX10_knownMany
    rw [m6.1, m6.2.1]
    rcases hA.2.2.2.2.1.2.1 with e | ⟨k, hk, e⟩
    · rw [e, if_pos rfl, if_neg (by decide)]
    · have hk24 := hA.2.2.2.2.1.1
      rw [e, if_neg, if_pos (nI_nn (by omega))]
      intro e
      have h' := congrArg Int32.toInt e
      rw [nI_toInt (by omega)] at h'
      have : (-1 : Int32).toInt = -1 := by decide
      omega
  rw [zcI_some ks, zcI_some kr]
  by_cases g0 : x = 0
  · rw [if_pos g0, if_pos g0]; exact fin _
  rw [if_neg g0, if_neg g0]
  by_cases g1 : x = 1
  · rw [if_pos g1, if_pos g1]; exact fin _
  rw [if_neg g1, if_neg g1]
  by_cases g2 : x = 2
  · rw [if_pos g2, if_pos g2]; exact fin _
  rw [if_neg g2, if_neg g2]
  by_cases g3 : x = 3
  · rw [if_pos g3, if_pos g3]; exact fin _
  rw [if_neg g3, if_neg g3]
  by_cases g4 : x = 4
  · rw [if_pos g4, if_pos g4]; exact fin _
  rw [if_neg g4, if_neg g4]
  by_cases g5 : x = 5
  · rw [if_pos g5, if_pos g5]; exact fin _
  rw [if_neg g5, if_neg g5]
  by_cases g6 : x = 6
  · rw [if_pos g6, if_pos g6]; exact fin _
  rw [if_neg g6, if_neg g6]
  by_cases g7 : x = 7
  · rw [if_pos g7, if_pos g7]; exact fin _
  rw [if_neg g7, if_neg g7]
  by_cases g8 : x = 8
  · rw [if_pos g8, if_pos g8]; exact fin _
  rw [if_neg g8, if_neg g8]
  by_cases g9 : x = 9
  · rw [if_pos g9, if_pos g9]; exact fin _
  rw [if_neg g9, if_neg g9]
  by_cases g10 : x = 10
  · rw [if_pos g10, if_pos g10]; exact fin _
  rw [if_neg g10, if_neg g10]
  by_cases g11 : x = 11
  · rw [if_pos g11, if_pos g11]; exact fin _
  rw [if_neg g11, if_neg g11]
  by_cases g12 : x = 12
  · rw [if_pos g12, if_pos g12]; exact fin _
  rw [if_neg g12, if_neg g12]
  by_cases g13 : x = 13
  · rw [if_pos g13, if_pos g13]; exact fin _
  rw [if_neg g13, if_neg g13]
  by_cases g14 : x = 14
  · rw [if_pos g14, if_pos g14]; exact fin _
  rw [if_neg g14, if_neg g14]; exact fin _
