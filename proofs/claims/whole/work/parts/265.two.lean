/-! two who go or wait -/
def sGain (P V : AV) (m : Nat) (x y : Int32) : Int32 := if x = 0 then (if y = 0 then V 2 m - P 2 m / 4 else V 2 m - P 2 m / 2) else (if y = 0 then -(V 2 m / 2) else 0)
def sRest (P V : AV) (a b k : Nat) : Bool := !decide (sGain P V a (nI (k / 2)) (nI (k % 2)) < sGain P V a (1 - nI (k / 2)) (nI (k % 2))) && !decide (sGain P V b (nI (k % 2)) (nI (k / 2)) < sGain P V b (1 - nI (k % 2)) (nI (k / 2)))
theorem c_gain {M : zM} {q : PPt} {V : AV} {I : Option AV} {D : Nat × (Nat → AV)} {S : SSt} {B : Nat × (Nat → Int32)} {F : Int32 × Int32} {m : Nat} {x y : Int32} (h : CR M q V I D S B F) (hn : q.1 ≤ 6) (hm : m < q.1) : gX9_gain (nI m) x y M = some (sGain q.2.2.2.1 V m x y) := by
  have hi := h.man (nI m)
  obtain ⟨p, c1, c2, c3, _⟩ := h
  have his : isM q.1 (nI m) = 1 := by unfold isM; rw [if_neg (nI_pos (by omega)), if_neg (nI_ge hm (by omega))]
  have v2 : M.1 57 m = V 2 m := c3.mm (c := 2) (by omega) (by omega) hm
  have q6 : ∀ e : Option Int32, zg (zok (nI m) 6) e = e := fun e => zg_true (zok_nI (show m < 6 by omega) (by omega))
  unfold gX9_gain gX9_gain_J43 sGain
  rw [zcI_some hi, his, if_neg (by decide)]
  simp only [q6]
  rw [nI_cl (show m < 2 ^ 31 by omega), v2]
  by_cases hx : x = 0
  · rw [if_pos hx, if_pos hx]
    by_cases hy : y = 0
    · rw [if_pos hy, if_pos hy, zgP_some c1.1 c2.1.1, c2.nn (c := 2) (by omega) (by omega) hm]
    · rw [if_neg hy, if_neg hy, zgP_some c1.1 c2.1.1, c2.nn (c := 2) (by omega) (by omega) hm]
  · rw [if_neg hx, if_neg hx]
    by_cases hy : y = 0
    · rw [if_pos hy, if_pos hy]
    · rw [if_neg hy, if_neg hy]
theorem m_has {M : zM} {q : PPt} {V : AV} {m : Nat} {x y : Int32} (hP : mPl M q) (hV : mV M q 0 V) (hn : q.1 ≤ 6) (hm : m < q.1) : gX10_hasOf (nI m) x y M = some (sGain q.2.2.2.1 V m x y) := by
  have v2 : M.1 123 m = V 2 m := by
    have := hV.mm (c := 2) (by omega) (by omega) (by omega) hm
    rw [Nat.mul_zero, Nat.zero_add] at this
    exact this
  have q6 : ∀ e : Option Int32, zg (zok (nI m) 138) e = e := fun e => zg_true (zok_nI (show m < 138 by omega) (by omega))
  have q12 : ∀ e : Option Int32, zg (zok (nI m) 12) e = e := fun e => zg_true (zok_nI (show m < 12 by omega) (by omega))
  unfold gX10_hasOf sGain
  simp only [q6, q12]
  rw [nI_cl (show m < 2 ^ 31 by omega), v2, show M.1 102 m = q.2.2.2.1 2 m from hP.nn (c := 2) (by omega) (by omega) hm]
  by_cases hx : x = 0
  · rw [if_pos hx, if_pos hx]
    by_cases hy : y = 0
    · rw [if_pos hy, if_pos hy]
    · rw [if_neg hy, if_neg hy]
  · rw [if_neg hx, if_neg hx]
    by_cases hy : y = 0
    · rw [if_pos hy, if_pos hy]
    · rw [if_neg hy, if_neg hy]
theorem four {k : Nat} (h : k < 4) : k = 0 ∨ k = 1 ∨ k = 2 ∨ k = 3 := by omega
theorem half_c {k : Nat} (h : k < 4) : (nI k >>> ((1 : Int32) &&& 31)) = nI (k / 2) ∧ nI k &&& 1 = nI (k % 2) := by
  rcases four h with rfl | rfl | rfl | rfl <;> exact ⟨by decide, by decide⟩
theorem half_m {k : Nat} (h : k < 4) : nI k / 2 = nI (k / 2) ∧ nI k - nI (k / 2) * 2 = nI (k % 2) := by
  rcases four h with rfl | rfl | rfl | rfl <;> exact ⟨by decide, by decide⟩
theorem c_rest {M : zM} {q : PPt} {V : AV} {I : Option AV} {D : Nat × (Nat → AV)} {S : SSt} {B : Nat × (Nat → Int32)} {F : Int32 × Int32} {a b k : Nat} (h : CR M q V I D S B F) (hn : q.1 ≤ 6) (ha : a < q.1) (hb : b < q.1) (hk : k < 4) : gX9_isRest (nI a) (nI b) (nI k) M = some (b2i (sRest q.2.2.2.1 V a b k)) := by
  unfold gX9_isRest sRest
  rw [zlet_eq, (half_c hk).1, (half_c hk).2, zcI_some (c_gain h hn ha), zcI_some (c_gain h hn ha)]
  by_cases h1 : sGain q.2.2.2.1 V a (nI (k / 2)) (nI (k % 2)) < sGain q.2.2.2.1 V a (1 - nI (k / 2)) (nI (k % 2))
  · rw [if_pos h1, decide_eq_true h1]; rfl
  · rw [if_neg h1, decide_eq_false h1, zcI_some (c_gain h hn hb), zcI_some (c_gain h hn hb)]
    by_cases h2 : sGain q.2.2.2.1 V b (nI (k % 2)) (nI (k / 2)) < sGain q.2.2.2.1 V b (1 - nI (k % 2)) (nI (k / 2))
    · rw [if_pos h2, decide_eq_true h2]; rfl
    · rw [if_neg h2, decide_eq_false h2]; rfl
theorem m_rest {M : zM} {q : PPt} {V : AV} {a b k : Nat} (hP : mPl M q) (hV : mV M q 0 V) (hn : q.1 ≤ 6) (ha : a < q.1) (hb : b < q.1) (hk : k < 4) : gX10_isRest (nI a) (nI b) (nI k) M = some (b2i (sRest q.2.2.2.1 V a b k)) := by
  unfold gX10_isRest sRest
  rw [(half_m hk).1, (half_m hk).2, zcI_some (m_has hP hV hn ha), zcI_some (m_has hP hV hn ha)]
  by_cases h1 : sGain q.2.2.2.1 V a (nI (k / 2)) (nI (k % 2)) < sGain q.2.2.2.1 V a (1 - nI (k / 2)) (nI (k % 2))
  · rw [if_pos h1, decide_eq_true h1]; rfl
  · rw [if_neg h1, decide_eq_false h1, zcI_some (m_has hP hV hn hb), zcI_some (m_has hP hV hn hb)]
    by_cases h2 : sGain q.2.2.2.1 V b (nI (k % 2)) (nI (k / 2)) < sGain q.2.2.2.1 V b (1 - nI (k % 2)) (nI (k / 2))
    · rw [if_pos h2, decide_eq_true h2]; rfl
    · rw [if_neg h2, decide_eq_false h2]; rfl
def isTwo (n : Nat) (x y : Int32) : Int32 := if isM n x = 0 then 0 else if isM n y = 0 then 0 else if x = y then 0 else 1
theorem CR.two {M : zM} {q : PPt} {V : AV} {I : Option AV} {D : Nat × (Nat → AV)} {S : SSt} {B : Nat × (Nat → Int32)} {F : Int32 × Int32} (h : CR M q V I D S B F) (x y : Int32) : gX9_areTwo x y M = some (isTwo q.1 x y) := by
  unfold gX9_areTwo isTwo
  rw [zcI_some (h.man x), zcI_some (h.man y)]
  repeat' split
  all_goals rfl
theorem mPl.two {M : zM} {q : PPt} (h : mPl M q) (x y : Int32) : gX10_areTwo x y M = some (isTwo q.1 x y) := by
  unfold gX10_areTwo isTwo
  rw [zcI_some (h.man x), zcI_some (h.man y)]
  repeat' split
  all_goals rfl
theorem isTwo_cases {n : Nat} (hn : n < 100) (x y : Int32) : isTwo n x y = 0 ∨ (isTwo n x y = 1 ∧ ∃ a b, a < n ∧ b < n ∧ a ≠ b ∧ x = nI a ∧ y = nI b) := by
  unfold isTwo
  rcases isM_cases hn x with h1 | ⟨h1, a, ha, e1⟩
  · left; rw [if_pos h1]
  · rw [h1, if_neg (by decide)]
    rcases isM_cases hn y with h2 | ⟨h2, b, hb, e2⟩
    · left; rw [if_pos h2]
    · rw [h2, if_neg (by decide)]
      by_cases e : x = y
      · left; rw [if_pos e]
      · right; rw [if_neg e]
        exact ⟨rfl, a, b, ha, hb, fun z => e (by rw [e1, e2, z]), e1, e2⟩
theorem k_rests {M : zM} (h : Rel M) (x y : Int32) : ∃ r M2, gX9_rests x y M = some r ∧ gX10_rests x y M = some (r, M2) ∧ Rel M2 := by
  have h' := h
  obtain ⟨q, V, I, D, S, B, F, hA, hC, hM⟩ := h
  have hz := hM.z (y := 0)
  have hn := hA.1.1.1
  unfold gX9_rests gX10_rests
  rw [zcI_some (hC.two x y), zlet_eq, zcI_some (hz.2.1.two x y)]
  rcases isTwo_cases (n := q.1) (by omega) x y with e | ⟨e, a, b, ha, hb, _, rfl, rfl⟩
  · rw [e, if_pos rfl, if_pos rfl]; exact ⟨_, _, rfl, rfl, h'.z⟩
  · rw [e, if_neg (show ¬ (1 : Int32) = 0 by decide), if_neg (show ¬ (1 : Int32) = 0 by decide)]
    have e1 : zfix zFu (gX9_rests_L16 (nI a) (nI b) M) (0, 0) = some (nI (bcnt (sRest q.2.2.2.1 V a b) 4)) := by
      refine zfix_run (fun k => (nI (bcnt (sRest q.2.2.2.1 V a b) k), nI k)) 4 (by simp [bcnt, nI_0]) (by unfold zFu; omega) ?_ ?_
      · intro k hk rc
        unfold gX9_rests_L16
        dsimp only
        rw [show (4 : Int32) = nI 4 by decide, if_neg (nI_ge hk (by omega)), zcI_some (c_rest hC hn ha hb hk)]
        show _ = rc (nI (bcnt (sRest q.2.2.2.1 V a b) k + (if sRest q.2.2.2.1 V a b k = true then 1 else 0)), _)
        cases hr : sRest q.2.2.2.1 V a b k
        · rw [if_pos (by decide), nI_1]; rfl
        · rw [if_neg (by decide), nI_1, nI_1]; rfl
      · intro rc
        unfold gX9_rests_L16
        dsimp only
        rw [show (4 : Int32) = nI 4 by decide, if_pos (nI_le (Nat.le_refl _) (by omega))]
    have e2 : gX10_restOf (nI a) (nI b) (-1) (zI M 98 0 0) = some (nI (bcnt (sRest q.2.2.2.1 V a b) 4)) := by
      unfold gX10_restOf
      refine zfix_run (fun k => (nI (bcnt (sRest q.2.2.2.1 V a b) k), nI k)) 4 (by simp [bcnt, nI_0]) (by unfold zFu; omega) ?_ ?_
      · intro k hk rc
        have hle := bcnt_le (sRest q.2.2.2.1 V a b) k
        unfold gX10_restOf_L6
        dsimp only
        rw [show (4 : Int32) = nI 4 by decide, if_neg (nI_ge hk (by omega)), zcI_some (m_rest hz.2.1 hz.2.2.1 hn ha hb hk), if_neg (nI_ne_m1 (by omega))]
        show _ = rc (nI (bcnt (sRest q.2.2.2.1 V a b) k + (if sRest q.2.2.2.1 V a b k = true then 1 else 0)), _)
        cases hr : sRest q.2.2.2.1 V a b k
        · rw [if_pos (by decide), nI_1]; rfl
        · rw [if_neg (by decide), nI_1, nI_1]; rfl
      · intro rc
        unfold gX10_restOf_L6
        dsimp only
        rw [show (4 : Int32) = nI 4 by decide, if_pos (nI_le (Nat.le_refl _) (by omega)), if_pos rfl]
    rw [e1, zcI_some e2]
    exact ⟨_, _, rfl, rfl, h'.z⟩
theorem rest_val {k : Nat} (h : k < 4) : (10 * (nI k >>> ((1 : Int32) &&& 31))) + (nI k &&& 1) = (10 * (nI k / 2)) + (nI k - nI k / 2 * 2) := by
  rcases four h with rfl | rfl | rfl | rfl <;> decide
theorem i32_sub0 {x y : Int32} : x - y = 0 ↔ y = x := by
  constructor
  · intro h
    have := congrArg (· + y) h
    simpa using this.symm
  · intro h; rw [h]; simp
theorem k_rest {M : zM} (h : Rel M) (x y z : Int32) : ∃ r M2, gX9_rest x y z M = some r ∧ gX10_rest x y z M = some (r, M2) ∧ Rel M2 := by
  have h' := h
  obtain ⟨q, V, I, D, S, B, F, hA, hC, hM⟩ := h
  have hz := hM.z (y := 0)
  have hn := hA.1.1.1
  unfold gX9_rest gX10_rest
  rw [zcI_some (hC.two x y), zlet_eq, zcI_some (hz.2.1.two x y)]
  rcases isTwo_cases (n := q.1) (by omega) x y with e | ⟨e, a, b, ha, hb, _, rfl, rfl⟩
  · rw [e, if_pos rfl, if_pos rfl]; exact ⟨_, _, rfl, rfl, h'.z⟩
  · rw [e, if_neg (show ¬ (1 : Int32) = 0 by decide), if_neg (show ¬ (1 : Int32) = 0 by decide)]
    by_cases z0 : (0 : Int32) ≤ z
    · rw [if_pos z0, if_neg (Int32.not_lt.mpr z0)]
      have hzm : ¬ z = -1 := fun w => by rw [w] at z0; exact absurd z0 (by decide)
      have e1 : zfix zFu (gX9_rest_L21 (nI a) (nI b) M) (z, 0) = (match ffst (fun k => sRest q.2.2.2.1 V a b k && (nI (bcnt (sRest q.2.2.2.1 V a b) k) == z)) 4 with
          | some k => some ((10 * (nI k / 2)) + (nI k - nI k / 2 * 2))
          | none => some (-2)) := by
        refine zfix_find (fun k => (z - nI (bcnt (sRest q.2.2.2.1 V a b) k), nI k)) (fun k => sRest q.2.2.2.1 V a b k && (nI (bcnt (sRest q.2.2.2.1 V a b) k) == z)) (fun k => some ((10 * (nI k / 2)) + (nI k - nI k / 2 * 2))) (some (-2)) 4 (by simp [bcnt, nI_0]) (by unfold zFu; omega) ?_ ?_ ?_
        · intro k hk hp rc
          unfold gX9_rest_L21
          dsimp only
          rw [show (4 : Int32) = nI 4 by decide, if_neg (nI_ge hk (by omega)), zcI_some (c_rest hC hn ha hb hk)]
          show _ = rc (z - nI (bcnt (sRest q.2.2.2.1 V a b) k + (if sRest q.2.2.2.1 V a b k = true then 1 else 0)), _)
          cases hr : sRest q.2.2.2.1 V a b k
          · rw [if_pos (by decide), nI_1]; rfl
          · rw [hr] at hp
            have hne : ¬ nI (bcnt (sRest q.2.2.2.1 V a b) k) = z := by simpa using hp
            rw [if_neg (by decide), if_neg (fun w => hne (i32_sub0.mp w)), nI_1]
            have : z - nI (bcnt (sRest q.2.2.2.1 V a b) k) + -1 = z - nI (bcnt (sRest q.2.2.2.1 V a b) k + (if true = true then 1 else 0)) := by
              rw [if_pos rfl, ← nI_1, Int32.sub_eq_add_neg, Int32.sub_eq_add_neg, Int32.neg_add, Int32.add_assoc, Int32.sub_eq_add_neg]
            rw [this]
        · intro k hk hp rc
          have hp' : sRest q.2.2.2.1 V a b k = true ∧ nI (bcnt (sRest q.2.2.2.1 V a b) k) = z := by simpa using hp
          unfold gX9_rest_L21
          dsimp only
          rw [show (4 : Int32) = nI 4 by decide, if_neg (nI_ge hk (by omega)), zcI_some (c_rest hC hn ha hb hk), hp'.1, if_neg (by decide), if_pos (i32_sub0.mpr hp'.2), rest_val hk]
        · intro rc
          unfold gX9_rest_L21
          dsimp only
          rw [show (4 : Int32) = nI 4 by decide, if_pos (nI_le (Nat.le_refl _) (by omega))]
      have e2 : gX10_restOf (nI a) (nI b) z (zI M 98 0 0) = (match ffst (fun k => sRest q.2.2.2.1 V a b k && (nI (bcnt (sRest q.2.2.2.1 V a b) k) == z)) 4 with
          | some k => some ((10 * (nI k / 2)) + (nI k - nI k / 2 * 2))
          | none => some (-2)) := by
        unfold gX10_restOf
        refine zfix_find (fun k => (nI (bcnt (sRest q.2.2.2.1 V a b) k), nI k)) (fun k => sRest q.2.2.2.1 V a b k && (nI (bcnt (sRest q.2.2.2.1 V a b) k) == z)) (fun k => some ((10 * (nI k / 2)) + (nI k - nI k / 2 * 2))) (some (-2)) 4 (by simp [bcnt, nI_0]) (by unfold zFu; omega) ?_ ?_ ?_
        · intro k hk hp rc
          unfold gX10_restOf_L6
          dsimp only
          rw [show (4 : Int32) = nI 4 by decide, if_neg (nI_ge hk (by omega)), zcI_some (m_rest hz.2.1 hz.2.2.1 hn ha hb hk)]
          show _ = rc (nI (bcnt (sRest q.2.2.2.1 V a b) k + (if sRest q.2.2.2.1 V a b k = true then 1 else 0)), _)
          cases hr : sRest q.2.2.2.1 V a b k
          · rw [if_pos (by decide), nI_1]; rfl
          · rw [hr] at hp
            have hne : ¬ nI (bcnt (sRest q.2.2.2.1 V a b) k) = z := by simpa using hp
            rw [if_neg (by decide), if_neg hne, nI_1, nI_1]; rfl
        · intro k hk hp rc
          have hp' : sRest q.2.2.2.1 V a b k = true ∧ nI (bcnt (sRest q.2.2.2.1 V a b) k) = z := by simpa using hp
          unfold gX10_restOf_L6
          dsimp only
          rw [show (4 : Int32) = nI 4 by decide, if_neg (nI_ge hk (by omega)), zcI_some (m_rest hz.2.1 hz.2.2.1 hn ha hb hk), hp'.1, if_neg (by decide), if_pos hp'.2]
        · intro rc
          unfold gX10_restOf_L6
          dsimp only
          rw [show (4 : Int32) = nI 4 by decide, if_pos (nI_le (Nat.le_refl _) (by omega)), if_neg hzm]
      rw [e1, e2]
      cases ffst (fun k => sRest q.2.2.2.1 V a b k && (nI (bcnt (sRest q.2.2.2.1 V a b) k) == z)) 4 with
      | none => exact ⟨_, _, rfl, rfl, h'.z⟩
      | some k => exact ⟨_, _, rfl, rfl, h'.z⟩
    · rw [if_neg z0, if_pos (Int32.not_le.mp z0)]; exact ⟨_, _, rfl, rfl, h'.z⟩
/-! widow -/
def wdS (y : Int32) : Nat → Int32 × Int32
  | 0 => (y, 0)
  | k + 1 => ((wdS y k).1 * 9 / 10, (wdS y k).2 + (wdS y k).1)
theorem cnt_of {n : Nat} {x : Int32} {lit : Int32} (hl : lit = nI n) (hn : n < 1000) (h0 : ¬ x < 0) (h : x ≤ lit) : ∃ k, k ≤ n ∧ x = nI k := by
  rw [hl, Int32.le_iff_toInt_le, nI_toInt (by omega)] at h
  rw [Int32.lt_iff_toInt_lt] at h0
  have z : (0 : Int32).toInt = 0 := rfl
  refine ⟨x.toInt.toNat, by omega, ?_⟩
  apply Int32.toInt_inj.mp
  rw [nI_toInt (by omega)]
  omega
theorem k_widow {M : zM} (h : Rel M) (x y : Int32) : ∃ r M2, gX9_widow x y M = some r ∧ gX10_widow x y M = some (r, M2) ∧ Rel M2 := by
  have h' := h
  obtain ⟨q, V, I, D, S, B, F, hA, hC, hM⟩ := h
  have hz := hM.z (y := 0)
  have hn := hA.1.1.1
  unfold gX9_widow gX10_widow
  rw [zcI_some (hC.man x), zlet_eq (zI M 98 0 0), zcI_some (hz.2.1.man x)]
  rcases isM_cases (n := q.1) (by omega) x with e | ⟨e, m, hm, rfl⟩
  · rw [e, if_pos rfl, if_pos rfl]; exact ⟨_, _, rfl, rfl, h'.z⟩
  · rw [e, if_neg (show ¬ (1 : Int32) = 0 by decide), if_neg (show ¬ (1 : Int32) = 0 by decide)]
    unfold gX9_isCount
    by_cases y0 : y < 0
    · rw [if_pos y0, if_pos y0, zcI_some rfl, if_pos rfl]; exact ⟨_, _, rfl, rfl, h'.z⟩
    · rw [if_neg y0, if_neg y0]
      by_cases y9 : y ≤ 99
      · rw [if_pos y9, if_neg (Int32.not_lt.mpr y9), zcI_some rfl, if_neg (show ¬ (1 : Int32) = 0 by decide), zg_true (zok_nI (show m < 6 by omega) (by omega)), zlet_eq, zg_true (zok_nI (show m < 138 by omega) (by omega)), zlet_eq, nI_cl (by omega)]
        obtain ⟨k, hk, rfl⟩ := cnt_of (n := 99) (by decide) (by omega) y0 y9
        obtain ⟨p, c1, c2, c3, _⟩ := hC
        have v2 : (zI M 98 0 0).1 123 m = V 2 m := by
          have := hz.2.2.1.mm (c := 2) (by omega) (by omega) (by omega) hm
          rw [Nat.mul_zero, Nat.zero_add] at this
          exact this
        rw [show M.1 57 m = V 2 m from c3.mm (c := 2) (by omega) (by omega) hm, v2]
        refine ⟨(wdS (V 2 m) k).2, zI M 98 0 0, ?_, ?_, h'.z⟩
        · refine zfix_run (fun i => ((wdS (V 2 m) i).1, (wdS (V 2 m) i).2, nI i)) k (by simp [wdS, nI_0]) (by unfold zFu; omega) ?_ ?_
          · intro i hi rc
            unfold gX9_widow_L33
            dsimp only
            rw [if_neg (nI_ge hi (by omega)), nI_1]
            rfl
          · intro rc
            unfold gX9_widow_L33
            dsimp only
            rw [if_pos (nI_le (Nat.le_refl _) (by omega))]
        · refine zfix_run (fun i => ((wdS (V 2 m) i).2, (wdS (V 2 m) i).1, nI i)) k (by simp [wdS, nI_0]) (by unfold zFu; omega) ?_ ?_
          · intro i hi rc
            unfold gX10_widow_L38
            dsimp only
            rw [if_neg (nI_ge hi (by omega)), nI_1]
            rfl
          · intro rc
            unfold gX10_widow_L38
            dsimp only
            rw [if_pos (nI_le (Nat.le_refl _) (by omega))]
      · rw [if_neg y9, if_pos (Int32.not_le.mp y9), zcI_some rfl, if_pos rfl]; exact ⟨_, _, rfl, rfl, h'.z⟩
