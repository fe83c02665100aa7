/-! next -/
def nxS (P V : AV) (t : Nat) : Nat → Option Nat
  | 0 => none
  | k + 1 => if V 4 (V 1 k).toNatClampNeg = 0 ∧ V 7 (V 1 k).toNatClampNeg = 0 ∧ P 7 t ≤ P 4 (V 1 k).toNatClampNeg then (match nxS P V t k with
    | none => some (V 1 k).toNatClampNeg
    | some b => if P 4 (V 1 k).toNatClampNeg ≤ P 4 b then some b else some (V 1 k).toNatClampNeg) else nxS P V t k
theorem nxS_ok {P V : AV} {t n : Nat} (hn : n ≤ 6) (hr : vRk V n) : ∀ k, k ≤ n → ∀ b, nxS P V t k = some b → b < n ∧ P 7 t ≤ P 4 b := by
  intro k
  induction k with
  | zero => intro _ b h; cases h
  | succ k ih =>
    intro hk b h
    obtain ⟨m, hm, e⟩ := hr k (by omega)
    unfold nxS at h
    rw [e, nI_cl (show m < 2 ^ 31 by omega)] at h
    by_cases hc : V 4 m = 0 ∧ V 7 m = 0 ∧ P 7 t ≤ P 4 m
    · rw [if_pos hc] at h
      cases hb : nxS P V t k with
      | none =>
        rw [hb] at h
        cases h
        exact ⟨hm, hc.2.2⟩
      | some c =>
        rw [hb] at h
        dsimp only at h
        by_cases g : P 4 m ≤ P 4 c
        · rw [if_pos g] at h
          cases h
          exact ih (by omega) _ hb
        · rw [if_neg g] at h
          cases h
          exact ⟨hm, hc.2.2⟩
    · rw [if_neg hc] at h
      exact ih (by omega) b h
def nxM (P V : AV) (t k : Nat) : Int32 := match nxS P V t k with
  | none => P 7 t - 1
  | some b => P 4 b
theorem i32_pred {d : Nat} {x : Int32} (h1 : 1 ≤ d) (h : d < 100) : x ≤ nI d - 1 ↔ ¬ nI d ≤ x := by
  have e : nI d - 1 = nI (d - 1) := by
    have : d = (d - 1) + 1 := by omega
    rw [this, nI_dec]
    rfl
  rw [e, Int32.le_iff_toInt_le, Int32.le_iff_toInt_le, nI_toInt (by omega), nI_toInt (by omega)]
  omega
theorem k_next {M : zM} (h : Rel M) (x : Int32) : ∃ r M2, gX9_next x M = some r ∧ gX10_next x M = some (r, M2) ∧ Rel M2 := by
  have h' := h
  obtain ⟨q, V, I, D, S, B, F, hA, hC, hM⟩ := h
  have hi1 := hC.thing x
  have hman := hC.man
  obtain ⟨p, c1, c2, c3, c4, c5, c6, c7, c8⟩ := hC
  have hz := hM.z (y := 0)
  have hn := hA.1.1.1
  have hT := hA.1.1.2.1
  unfold gX9_next gX10_next
  rw [zcI_some hi1, zlet_eq, zcI_some (hz.2.1.thing x)]
  rcases isM_cases (n := q.2.1) (by omega) x with hy | ⟨hy, t, ht, rfl⟩
  · rw [hy, if_pos rfl, if_pos rfl]; exact ⟨_, _, rfl, rfl, h'.z⟩
  · rw [hy, if_neg (show ¬ (1 : Int32) = 0 by decide), if_neg (show ¬ (1 : Int32) = 0 by decide), zgP_some c1.1 c2.1.1, zg_true (zok_nI (show t < 8 by omega) (by omega)), zlet_eq, nI_cl (by omega), c2.tt (c := 7) (by omega) (by omega) ht]
    obtain ⟨d, d1, d2, d3⟩ := hA.1.2.2.1 t ht
    have hok := nxS_ok (P := q.2.2.2.1) (t := t) hn hA.2.1.1.1
    refine ⟨oT (nxS q.2.2.2.1 V t q.1), zI M 98 0 0, ?_, ?_, h'.z⟩
    · refine zfix_run (fun k => (oT (nxS q.2.2.2.1 V t k), nxM q.2.2.2.1 V t k, nI k)) q.1 (by rw [nI_0]; rfl) (by unfold zFu; omega) ?_ ?_
      · intro k hk rc
        obtain ⟨m, hm, e⟩ := hA.2.1.1.1 k hk
        unfold gX9_next_L28
        dsimp only
        rw [zgP_some c1.1 c2.1.1, c2.1.2.1.1, if_neg (nI_ge hk (by omega)), nI_lit6, if_neg (nI_ge (by omega) (by omega)), zg_true (zok_nI (show k < 6 by omega) (by omega)), zlet_eq, nI_cl (show k < 2 ^ 31 by omega), show M.1 56 k = nI m from (c3.mm (c := 1) (by omega) (by omega) hk).trans e, zcI_some (hman (nI m))]
        have his : isM q.1 (nI m) = 1 := by unfold isM; rw [if_neg (nI_pos (by omega)), if_neg (nI_ge hm (by omega))]
        rw [his, if_neg (by decide), zg_true (zok_nI (show m < 6 by omega) (by omega)), nI_cl (show m < 2 ^ 31 by omega), show M.1 59 m = V 4 m from c3.mm (c := 4) (by omega) (by omega) hm, show M.1 62 m = V 7 m from c3.mm (c := 7) (by omega) (by omega) hm, nI_1]
        have stay : ∀ (hno : ¬ (V 4 m = 0 ∧ V 7 m = 0 ∧ q.2.2.2.1 7 t ≤ q.2.2.2.1 4 m)), nxS q.2.2.2.1 V t (k + 1) = nxS q.2.2.2.1 V t k := fun hno => by
          show (if _ then _ else _) = _
          rw [e, nI_cl (by omega), if_neg hno]
        by_cases h4 : V 4 m = 0
        · rw [if_pos h4, zg_true (zok_nI (show m < 6 by omega) (by omega))]
          by_cases h7 : V 7 m = 0
          · rw [if_pos h7, zgP_some c1.1 c2.1.1, zg_true (zok_nI (show m < 6 by omega) (by omega)), c2.nn (c := 4) (by omega) (by omega) hm, zgP_some c1.1 c2.1.1, zg_true (zok_nI (show m < 6 by omega) (by omega)), zlet_eq]
            cases hb : nxS q.2.2.2.1 V t k with
            | none =>
              have em : nxM q.2.2.2.1 V t k = q.2.2.2.1 7 t - 1 := by unfold nxM; rw [hb]
              rw [em, d3]
              by_cases g : nI d ≤ q.2.2.2.1 4 m
              · rw [if_neg (fun z => ((i32_pred d1 (by omega)).mp z) g)]
                have es : nxS q.2.2.2.1 V t (k + 1) = some m := by
                  show (if _ then _ else _) = _
                  rw [e, nI_cl (by omega), if_pos ⟨h4, h7, by rw [d3]; exact g⟩, hb]
                have em' : nxM q.2.2.2.1 V t (k + 1) = q.2.2.2.1 4 m := by unfold nxM; rw [es]
                rw [es, em', c2.nn (c := 4) (by omega) (by omega) hm]
                rfl
              · rw [if_pos ((i32_pred d1 (by omega)).mpr g)]
                have es := stay (fun z => g (by rw [← d3]; exact z.2.2))
                have em' : nxM q.2.2.2.1 V t (k + 1) = nI d - 1 := by unfold nxM; rw [es, hb]; dsimp only; rw [d3]
                rw [es, em', hb]
            | some b =>
              have em : nxM q.2.2.2.1 V t k = q.2.2.2.1 4 b := by unfold nxM; rw [hb]
              have hbk := hok k (by omega) b hb
              rw [em]
              by_cases g : q.2.2.2.1 4 m ≤ q.2.2.2.1 4 b
              · rw [if_pos g]
                have es : nxS q.2.2.2.1 V t (k + 1) = some b := by
                  show (if _ then _ else _) = _
                  rw [e, nI_cl (by omega), hb]
                  dsimp only
                  rw [if_pos g]
                  split <;> rfl
                have em' : nxM q.2.2.2.1 V t (k + 1) = q.2.2.2.1 4 b := by unfold nxM; rw [es]
                rw [es, em']
              · rw [if_neg g]
                have gd : q.2.2.2.1 7 t ≤ q.2.2.2.1 4 m := by
                  have a := hbk.2
                  rw [Int32.le_iff_toInt_le] at a g ⊢
                  omega
                have es : nxS q.2.2.2.1 V t (k + 1) = some m := by
                  show (if _ then _ else _) = _
                  rw [e, nI_cl (by omega), if_pos ⟨h4, h7, gd⟩, hb]
                  dsimp only
                  rw [if_neg g]
                have em' : nxM q.2.2.2.1 V t (k + 1) = q.2.2.2.1 4 m := by unfold nxM; rw [es]
                rw [es, em', c2.nn (c := 4) (by omega) (by omega) hm]
                rfl
          · rw [if_neg h7]
            have es := stay (fun z => h7 z.2.1)
            have em' : nxM q.2.2.2.1 V t (k + 1) = nxM q.2.2.2.1 V t k := by unfold nxM; rw [es]
            rw [es, em']
        · rw [if_neg h4]
          have es := stay (fun z => h4 z.1)
          have em' : nxM q.2.2.2.1 V t (k + 1) = nxM q.2.2.2.1 V t k := by unfold nxM; rw [es]
          rw [es, em']
      · intro rc
        unfold gX9_next_L28
        dsimp only
        rw [zgP_some c1.1 c2.1.1, c2.1.2.1.1, if_pos (nI_le (Nat.le_refl _) (by omega))]
    · refine zfix_run (fun k => (oN (nxS q.2.2.2.1 V t k), nI k)) q.1 (by rw [nI_0]; rfl) (by unfold zFu; omega) ?_ ?_
      · intro k hk rc
        obtain ⟨m, hm, e⟩ := hA.2.1.1.1 k hk
        have v1 : (zI M 98 0 0).1 129 k = nI m := by
          have := hz.2.2.1.mm (c := 1) (by omega) (by omega) (by omega) hk
          rw [Nat.mul_zero, Nat.zero_add, e] at this
          exact this
        have v4 : (zI M 98 0 0).1 125 m = V 4 m := by
          have := hz.2.2.1.mm (c := 4) (by omega) (by omega) (by omega) hm
          rw [Nat.mul_zero, Nat.zero_add] at this
          exact this
        have v7 : (zI M 98 0 0).1 128 m = V 7 m := by
          have := hz.2.2.1.m7 hz.1.ne hm
          rw [Nat.mul_zero, Nat.zero_add] at this
          exact this
        have p4 : ∀ b, b < q.1 → (zI M 98 0 0).1 104 b = q.2.2.2.1 4 b := fun b hb => hz.2.1.nn (c := 4) (by omega) (by omega) hb
        have p7 : (zI M 98 0 0).1 107 t = q.2.2.2.1 7 t := hz.2.1.tt (c := 7) (by omega) (by omega) ht
        have stay : ∀ (hno : ¬ (V 4 m = 0 ∧ V 7 m = 0 ∧ q.2.2.2.1 7 t ≤ q.2.2.2.1 4 m)), nxS q.2.2.2.1 V t (k + 1) = nxS q.2.2.2.1 V t k := fun hno => by
          show (if _ then _ else _) = _
          rw [e, nI_cl (by omega), if_neg hno]
        unfold gX10_next_L19
        dsimp only
        rw [cl0, hz.2.1.1.1.1, if_neg (nI_ge hk (by omega)), zg_true (zok_nI (show k < 138 by omega) (by omega)), zlet_eq, nI_cl (show k < 2 ^ 31 by omega), v1, zg_true (zok_nI (show m < 138 by omega) (by omega)), nI_cl (show m < 2 ^ 31 by omega), v4, v7, nI_1]
        by_cases h4 : V 4 m = 0
        · rw [if_pos h4, zg_true (zok_nI (show m < 138 by omega) (by omega))]
          rcases hA.2.1.2.1 m hm with h7 | h7
          · rw [h7, if_neg (show ¬ (0 : Int32) = 1 by decide), zg_true (zok_nI (show m < 12 by omega) (by omega)), zg_true (zok_nI (show t < 16 by omega) (by omega)), nI_cl (show t < 2 ^ 31 by omega), p7, p4 m hm]
            by_cases g : q.2.2.2.1 7 t ≤ q.2.2.2.1 4 m
            · rw [if_pos g]
              cases hb : nxS q.2.2.2.1 V t k with
              | none =>
                have es : nxS q.2.2.2.1 V t (k + 1) = some m := by
                  show (if _ then _ else _) = _
                  rw [e, nI_cl (by omega), if_pos ⟨h4, h7, g⟩, hb]
                rw [es, if_pos (show oN none = -1 from rfl)]
                rfl
              | some b =>
                have hbk := hok k (by omega) b hb
                rw [show oN (some b) = nI b from rfl, if_neg (nI_ne_m1 (by omega)), zg_true (zok_nI (show m < 12 by omega) (by omega)), zg_true (zok_nI (show b < 12 by omega) (by omega)), nI_cl (show b < 2 ^ 31 by omega), p4 b hbk.1]
                by_cases gg : q.2.2.2.1 4 m ≤ q.2.2.2.1 4 b
                · have es : nxS q.2.2.2.1 V t (k + 1) = some b := by
                    show (if _ then _ else _) = _
                    rw [e, nI_cl (by omega), if_pos ⟨h4, h7, g⟩, hb]
                    dsimp only
                    rw [if_pos gg]
                  rw [if_pos gg, es]
                  rfl
                · have es : nxS q.2.2.2.1 V t (k + 1) = some m := by
                    show (if _ then _ else _) = _
                    rw [e, nI_cl (by omega), if_pos ⟨h4, h7, g⟩, hb]
                    dsimp only
                    rw [if_neg gg]
                  rw [if_neg gg, es]
                  rfl
            · rw [if_neg g, stay (fun z => g z.2.2)]
          · rw [h7, if_pos rfl, stay (fun z => by rw [h7] at z; exact absurd z.2.1 (by decide))]
        · rw [if_neg h4, stay (fun z => h4 z.1)]
      · intro rc
        unfold gX10_next_L19
        dsimp only
        rw [cl0, hz.2.1.1.1.1, if_pos (nI_le (Nat.le_refl _) (by omega)), zcI_some (oN_oT _ _ (fun b hb => by have := hok q.1 (by omega) b hb; omega))]
