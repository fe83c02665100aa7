theorem wI.rows {q : PPt} {V V' : AV} (h : wI q V) (e : ∀ c, c = 1 ∨ c = 2 ∨ c = 4 ∨ c = 5 ∨ c = 6 ∨ c = 7 → V' c = V c) : wI q V' := by
  unfold wI vInv vRk vIn vRu vHb vPm vGz at *
  rw [e 1 (by omega), e 2 (by omega), e 4 (by omega), e 5 (by omega), e 6 (by omega), e 7 (by omega)]
  exact h
theorem vset_twice {V : AV} {c k : Nat} {x y : Int32} : vset (vset V c k x) c k y = vset V c k y := by
  funext c' k'
  unfold vset
  by_cases h : c' = c ∧ k' = k
  · rw [if_pos h, if_pos h]
  · rw [if_neg h, if_neg h, if_neg h]
theorem i32_subadd {a b : Int32} : a - b + b = a := by rw [Int32.sub_eq_add_neg, Int32.add_assoc, Int32.add_left_neg, Int32.add_zero]
theorem i32_addsub {a b : Int32} : a + b - b = a := by rw [Int32.sub_eq_add_neg, Int32.add_assoc, Int32.add_right_neg, Int32.add_zero]
theorem cV.put {M : zM} {q : PPt} {w c k : Nat} {V : AV} {x : Int32} (h : cV M q w V) (hd : vdim q.1 q.2.1 c k = true) : cV (zI M (w + c) k x) q w (vset V c k x) := by
  unfold cV at h ⊢
  rw [vC_put hd, h]
theorem mV.put {M : zM} {q : PPt} {f c k : Nat} {V : AV} {x : Int32} (h : mV M q f V) (hd : vdim q.1 q.2.1 c k = true) (h7 : c ≠ 7) (h5 : c ≠ 5) : mV (zI M (ma f c k).1 (ma f c k).2 x) q f (vset V c k x) := by
  unfold mV at h ⊢
  rw [vM_put hd h7, if_neg h5, h]
theorem mV.put7 {M : zM} {q : PPt} {f k : Nat} {V : AV} {x : Int32} (h : mV M q f V) (hk : k < q.1) (ht : M.1 98 51 ≠ 2) : mV (zI M 128 (6 * f + k) x) q f (vset V 7 k x) := by
  have hd : vdim q.1 q.2.1 7 k = true := by unfold vdim; simp [hk]
  unfold mV at h ⊢
  rw [← h]
  funext c' k'
  unfold vM vset
  dsimp only
  by_cases he : c' = 7 ∧ k' = k
  · obtain ⟨rfl, rfl⟩ := he
    rw [if_pos hd, if_pos (show 7 = 7 ∧ k' = k' from ⟨rfl, rfl⟩)]
    unfold vRd
    rw [if_neg (by omega), zI_of (show ¬ (98 = 128 ∧ 51 = 6 * f + k') by omega), if_neg (fun z => ht z.2.1)]
    exact zI_at
  · rw [if_neg he]
    by_cases hd' : vdim q.1 q.2.1 c' k' = true
    · rw [if_pos hd', if_pos hd']
      have hne : ¬ ((ma f c' k').1 = 128 ∧ (ma f c' k').2 = 6 * f + k) := fun z => he (ma_inj (f := f) hd' hd z.1 z.2)
      unfold vRd
      rw [zI_of hne, zI_of (by omega), zI_of (by omega)]
    · rw [if_neg hd', if_neg hd']
theorem c_put12 {M : zM} {q : PPt} {V : AV} {x : Int32} (h : cV M q 55 V) : cV (zI M 55 12 x) q 55 (vset V 0 12 x) := h.put (c := 0) rfl
theorem vdN {n T c k : Nat} (hc : 1 ≤ c) (hc7 : c ≤ 7) (h : k < n) : vdim n T c k = true := by
  unfold vdim
  rw [if_neg (by omega), if_pos hc7]
  exact decide_eq_true h
theorem CF_0a {a : Nat} (h1 : 118 ≤ a) (h2 : a ≤ 122) : CF 0 a 0 := Or.inl ⟨h1, h2, rfl⟩
theorem CF_0m {a k : Nat} (h1 : 123 ≤ a) (h2 : a ≤ 129) (h : k < 6) : CF 0 a k := Or.inr (Or.inl ⟨h1, h2, by omega, by omega⟩)
theorem CF_0t {a k : Nat} (h1 : 130 ≤ a) (h2 : a ≤ 131) (h : k < 8) : CF 0 a k := Or.inr (Or.inr ⟨h1, h2, by omega, by omega⟩)
theorem zI_CF {M : zM} {a i b j : Nat} {x : Int32} (h : CF 0 a i) (h2 : ¬ CF 0 b j) : (zI M a i x).1 b j = M.1 b j := zI_of (fun z => h2 (by rw [z.1, z.2]; exact h))
theorem k_pay {M : zM} (h : Rel M) (x y : Int32) : ∃ r M1 M2, gX9_pay x y M = some (r, M1) ∧ gX10_pay x y M1 = some (r, M2) ∧ Rel M2 := by
  have h' := h
  obtain ⟨q, V, I, D, S, B, F, hA, hC, hM⟩ := h
  have hn := hA.1.1.1
  have hz0 := hM.z (y := 0)
  have c12 : M.1 55 12 = V 0 12 := by obtain ⟨p, c1, c2, c3, c4⟩ := hC; exact c3.oo (by omega) (by omega)
  have m12 : ∀ {N : zM} {D' : Nat × (Nat → AV)}, MR N q V I D' S B F → N.1 121 0 = V 0 12 := fun hN => hN.2.2.1.oo (k := 12) (by omega) (by omega)
  have out : ∀ (r : Int32), gX10_pay x y M = some (r, zI M 98 0 0) → ∃ r' M1 M2, some (r, M) = some (r', M1) ∧ gX10_pay x y M1 = some (r', M2) ∧ Rel M2 := fun r e => ⟨r, M, _, rfl, e, h'.z⟩
  unfold gX9_pay
  rw [zcI_some (hC.man x), c12]
  rcases isM_cases (n := q.1) (by omega) x with e | ⟨e, m, hm, rfl⟩
  · rw [e, if_pos rfl]
    apply out
    unfold gX10_pay
    rw [zlet_eq, zcI_some (hz0.2.1.man x), e, if_pos rfl]
  · rw [e, if_neg (show ¬ (1 : Int32) = 0 by decide)]
    by_cases h1 : y < 1
    · rw [if_pos h1]
      apply out
      unfold gX10_pay
      rw [zlet_eq, zcI_some (hz0.2.1.man _), e, if_neg (show ¬ (1 : Int32) = 0 by decide), if_pos h1]
    · rw [if_neg h1]
      by_cases h2 : y ≤ 99
      · rw [if_pos h2]
        by_cases h3 : y ≤ V 0 12
        · rw [if_pos h3, zlet_eq, zg_true (zok_nI (show m < 6 by omega) (by omega)), zg_true (zok_nI (show m < 6 by omega) (by omega)), zlet_eq, nI_cl (by omega)]
          have hC' := hC
          obtain ⟨p, c1, c2, c3, c4⟩ := hC'
          have v3 : (zI M 55 12 (V 0 12 - y)).1 58 m = V 3 m := by rw [zI_of (by omega)]; exact c3.mm (c := 3) (by omega) (by omega) hm
          have hv' : cV (zI (zI M 55 12 (V 0 12 - y)) 58 m (V 3 m + y)) q 55 (vset (vset V 0 12 (V 0 12 - y)) 3 m (V 3 m + y)) := (c_put12 c3).put (c := 3) (vdN (by omega) (by omega) hm)
          have hu : sUndo q.1 q.2.1 0 (nI m) y (vset (vset V 0 12 (V 0 12 - y)) 3 m (V 3 m + y)) = V := by
            unfold sUndo
            rw [if_neg (by decide), if_pos rfl, nI_cl (by omega), show vset (vset V 0 12 (V 0 12 - y)) 3 m (V 3 m + y) 0 12 = V 0 12 - y by rw [vset_ne (by omega), vset_at], show vset (vset V 0 12 (V 0 12 - y)) 3 m (V 3 m + y) 3 m = V 3 m + y from vset_at, i32_subadd, i32_addsub]
            funext c k
            by_cases w3 : c = 3 ∧ k = m
            · obtain ⟨rfl, rfl⟩ := w3; rw [vset_at]
            · rw [vset_ne w3]
              by_cases w0 : c = 0 ∧ k = 12
              · obtain ⟨rfl, rfl⟩ := w0; rw [vset_at]
              · rw [vset_ne w0, vset_ne w3, vset_ne w0]
          obtain ⟨M1, g1, g2, g3, g4, g5⟩ := c_deed (Mw := zI (zI M 55 12 (V 0 12 - y)) 58 m (V 3 m + y)) (a := 0) (b := nI m) (c := y) hC (fun z i w => by rw [zI_of (by omega), zI_of (by omega)]) rfl hv' ⟨m, rfl, by rw [if_neg (by decide)]; exact hm⟩ hu
          rw [v3, zcV_some g1]
          have e12 : M1.1 55 12 = V 0 12 - y := by rw [g4 55 12 (by omega) (by omega), zI_of (by omega), zI_at]
          have hM1 : MR M1 q V I D S B F := hM.mono (fun a i d => g3 a i (by unfold dM at d; omega))
          have hz := hM1.z (y := 0)
          obtain ⟨M2, k1, k2, k3, k4⟩ := r_keepNow hz
          have hv2 : mV (zI (zI M2 121 0 (V 0 12 - y)) 124 m (V 3 m + y)) q 0 (vset (vset V 0 12 (V 0 12 - y)) 3 m (V 3 m + y)) := by
            have a1 : mV (zI M2 121 0 (V 0 12 - y)) q 0 (vset V 0 12 (V 0 12 - y)) := k2.2.2.1.put (c := 0) (k := 12) rfl (by omega) (by omega)
            have a2 := a1.put (c := 3) (k := m) (x := V 3 m + y) (vdN (by omega) (by omega) hm) (by omega) (by omega)
            rw [show (ma 0 3 m).1 = 124 from rfl, show (ma 0 3 m).2 = 6 * 0 + m from rfl, Nat.mul_zero, Nat.zero_add] at a2
            exact a2
          have m3 : (zI M2 121 0 (V 0 12 - y)).1 124 m = V 3 m := by
            have := k2.2.2.1.mm (c := 3) (by omega) (by omega) (by omega) hm
            rw [Nat.mul_zero, Nat.zero_add] at this
            rw [zI_of (by omega)]
            exact this
          refine ⟨V 0 12 - y, M1, zI (zI M2 121 0 (V 0 12 - y)) 124 m (V 3 m + y), by rw [e12], ?_, q, vset (vset V 0 12 (V 0 12 - y)) 3 m (V 3 m + y), I, dPush V D, S, B, F, hA.push ?_, ?_, ?_⟩
          · unfold gX10_pay
            rw [zlet_eq, zcI_some (hz.2.1.man _), e, if_neg (show ¬ (1 : Int32) = 0 by decide), if_neg h1, if_pos h2, cl0, m12 hz, if_pos h3, zcV_some k1, m12 k2, zlet_eq, zg_true (zok_nI (show m < 138 by omega) (by omega)), zg_true (zok_nI (show m < 138 by omega) (by omega)), zlet_eq, nI_cl (by omega), m3, zI_of (show ¬ (121 = 124 ∧ 0 = m) by omega), zI_at]
          · exact hA.2.1.rows (fun c hc => by rw [vset_row (by omega), vset_row (by omega)])
          · refine g2.mono (fun a i d _ => ?_) (fun a _ _ => ?_)
            · have : a < 98 := by unfold dC at d; omega
              rw [zI_of (by omega), zI_of (by omega), k4 a i this, zI_of (by omega)]
            · show M2.2.2 a = _; rw [k3]; rfl
          · refine k2.now (fun a i d w => ?_) hv2
            rw [zI_CF (CF_0m (by omega) (by omega) (by omega)) w, zI_CF (CF_0a (by omega) (by omega)) w]
        · rw [if_neg h3]
          apply out
          unfold gX10_pay
          rw [zlet_eq, zcI_some (hz0.2.1.man _), e, if_neg (show ¬ (1 : Int32) = 0 by decide), if_neg h1, if_pos h2, cl0, m12 hz0, if_neg h3]
      · rw [if_neg h2]
        apply out
        unfold gX10_pay
        rw [zlet_eq, zcI_some (hz0.2.1.man _), e, if_neg (show ¬ (1 : Int32) = 0 by decide), if_neg h1, if_neg h2]
theorem CR.row {M : zM} {q : PPt} {V : AV} {I : Option AV} {D : Nat × (Nat → AV)} {S : SSt} {B : Nat × (Nat → Int32)} {F : Int32 × Int32} (h : CR M q V I D S B F) : cV M q 55 V := by obtain ⟨p, c1, c2, c3, c4⟩ := h; exact c3
theorem k_hold {M : zM} (h : Rel M) (x y : Int32) (hy : y = 0 ∨ y = 1) : ∃ r M1 M2, gX9_hold x y M = some (r, M1) ∧ gX10_hold x y M1 = some (r, M2) ∧ Rel M2 := by
  have h' := h
  obtain ⟨q, V, I, D, S, B, F, hA, hC, hM⟩ := h
  have hn := hA.1.1.1
  have hz0 := hM.z (y := 0)
  unfold gX9_hold
  rw [zcI_some (hC.man x)]
  rcases isM_cases (n := q.1) (by omega) x with e | ⟨e, m, hm, rfl⟩
  · rw [e, if_pos rfl]
    refine ⟨0, M, zI M 98 0 0, rfl, ?_, h'.z⟩
    unfold gX10_hold
    rw [zlet_eq, zcI_some (hz0.2.1.man x), e, if_pos rfl]
  · have c3 := hC.row
    have m7 : ∀ {N : zM} {D' : Nat × (Nat → AV)}, MR N q V I D' S B F → N.1 128 m = V 7 m := fun hN => by
      have := hN.2.2.1.m7 hN.1.ne hm
      rw [Nat.mul_zero, Nat.zero_add] at this
      exact this
    have hb := hA.2.1.2.1 m hm
    rw [e, if_neg (show ¬ (1 : Int32) = 0 by decide), zg_true (zok_nI (show m < 6 by omega) (by omega)), nI_cl (by omega), show M.1 62 m = V 7 m from c3.mm (c := 7) (by omega) (by omega) hm]
    have hJ : ∀ {N : zM} {D' : Nat × (Nat → AV)}, MR N q V I D' S B F → (zg (zok (nI m) 138) (if N.1 128 (nI m : Int32).toNatClampNeg = 1 then gX10_hold_J28 (nI m) y 1 N else gX10_hold_J28 (nI m) y 0 N)) = gX10_hold_J28 (nI m) y (V 7 m) N := fun hN => by
      rw [zg_true (zok_nI (show m < 138 by omega) (by omega)), nI_cl (by omega), m7 hN]
      rcases hb with e | e <;> rw [e]
      · rw [if_neg (by decide)]
      · rw [if_pos rfl]
    by_cases h1 : V 7 m = y
    · rw [if_pos h1]
      refine ⟨0, M, zI M 98 0 0, rfl, ?_, h'.z⟩
      unfold gX10_hold
      rw [zlet_eq, zcI_some (hz0.2.1.man _), e, if_neg (show ¬ (1 : Int32) = 0 by decide), hJ hz0]
      unfold gX10_hold_J28
      rw [if_pos h1]
    · rw [if_neg h1, zg_true (zok_nI (show m < 6 by omega) (by omega)), zlet_eq, nar_b hy]
      have hv' : cV (zI M 62 m y) q 55 (vset V 7 m y) := c3.put (c := 7) (vdN (by omega) (by omega) hm)
      have hu : sUndo q.1 q.2.1 2 (nI m) 0 (vset V 7 m y) = V := by
        unfold sUndo
        rw [if_neg (by decide), if_neg (by decide), if_pos rfl, nI_cl (by omega), vset_at, vset_twice]
        apply vset_same
        rcases hb with e | e <;> rcases hy with e' | e' <;> rw [e, e'] at h1 ⊢
        · exact absurd rfl h1
        · rfl
        · rfl
        · exact absurd rfl h1
      obtain ⟨M1, g1, g2, g3, g4, g5⟩ := c_deed (Mw := zI M 62 m y) (a := 2) (b := nI m) (c := 0) hC (fun z i w => by rw [zI_of (by omega)]) rfl hv' ⟨m, rfl, by rw [if_neg (by decide)]; exact hm⟩ hu
      rw [zcV_some g1]
      have hM1 : MR M1 q V I D S B F := hM.mono (fun a i d => g3 a i (by unfold dM at d; omega))
      have hz := hM1.z (y := 0)
      obtain ⟨M2, k1, k2, k3, k4⟩ := r_keepNow hz
      have hv2 : mV (zI M2 128 m y) q 0 (vset V 7 m y) := by
        have := k2.2.2.1.put7 (x := y) hm k2.1.ne
        rw [Nat.mul_zero, Nat.zero_add] at this
        exact this
      refine ⟨1, M1, zI M2 128 m y, rfl, ?_, q, vset V 7 m y, I, dPush V D, S, B, F, hA.push ?_, ?_, ?_⟩
      · unfold gX10_hold
        rw [zlet_eq, zcI_some (hz.2.1.man _), e, if_neg (show ¬ (1 : Int32) = 0 by decide), hJ hz]
        unfold gX10_hold_J28
        rw [if_neg h1, zcV_some k1, nI_cl (by omega)]
        rcases hy with e' | e'
        · rw [e', if_pos rfl, zg_true (zok_nI (show m < 138 by omega) (by omega)), zlet_eq]
        · rw [e', if_neg (by decide), zg_true (zok_nI (show m < 138 by omega) (by omega)), zlet_eq]
      · refine ⟨?_, ?_, ?_, ?_⟩
        · have := hA.2.1.1
          unfold vInv vRk vIn vRu at this ⊢
          rw [vset_row (c' := 1) (by omega), vset_row (c' := 4) (by omega), vset_row (c' := 5) (by omega), vset_row (c' := 6) (by omega), vset_row (c' := 2) (by omega)]
          exact this
        · intro k hk
          by_cases ek : k = m
          · subst ek; rw [vset_at]; exact hy
          · rw [vset_ne (by omega)]; exact hA.2.1.2.1 k hk
        · have := hA.2.1.2.2.1
          unfold vPm at this ⊢
          rw [vset_row (c' := 1) (by omega)]
          exact this
        · have := hA.2.1.2.2.2
          unfold vGz at this ⊢
          rw [vset_row (c' := 4) (by omega), vset_row (c' := 5) (by omega)]
          exact this
      · refine g2.mono (fun a i d _ => ?_) (fun a _ _ => ?_)
        · have : a < 98 := by unfold dC at d; omega
          rw [zI_of (by omega), k4 a i this, zI_of (by omega)]
        · show M2.2.2 a = _; rw [k3]; rfl
      · refine k2.now (fun a i d w => ?_) hv2
        rw [zI_CF (CF_0m (by omega) (by omega) (by omega)) w]
theorem k_wet {M : zM} (h : Rel M) (x y : Int32) : ∃ r M1 M2, gX9_wet x y M = some (r, M1) ∧ gX10_wet x y M1 = some (r, M2) ∧ Rel M2 := by
  have h' := h
  obtain ⟨q, V, I, D, S, B, F, hA, hC, hM⟩ := h
  have hn := hA.1.1.2.1
  have hz0 := hM.z (y := 0)
  unfold gX9_wet
  rw [zcI_some (hC.thing x)]
  rcases isM_cases (n := q.2.1) (by omega) x with e | ⟨e, t, ht, rfl⟩
  · rw [e, if_pos rfl]
    refine ⟨-1, M, zI M 98 0 0, rfl, ?_, h'.z⟩
    unfold gX10_wet
    rw [zlet_eq, zcI_some (hz0.2.1.thing x), e, if_pos rfl]
  · have c3 := hC.row
    have m8 : ∀ {N : zM} {D' : Nat × (Nat → AV)}, MR N q V I D' S B F → N.1 130 t = V 8 t ∧ N.1 131 t = V 9 t := fun hN => by
      have a := hN.2.2.1.tt (c := 8) (by omega) (by omega) ht
      have b := hN.2.2.1.tt (c := 9) (by omega) (by omega) ht
      rw [Nat.mul_zero, Nat.zero_add] at a b
      exact ⟨a, b⟩
    rw [e, if_neg (show ¬ (1 : Int32) = 0 by decide)]
    by_cases h1 : y < 1
    · rw [if_pos h1]
      refine ⟨-1, M, zI M 98 0 0, rfl, ?_, h'.z⟩
      unfold gX10_wet
      rw [zlet_eq, zcI_some (hz0.2.1.thing _), e, if_neg (show ¬ (1 : Int32) = 0 by decide), if_pos h1]
    · rw [if_neg h1]
      by_cases h2 : 20 < y
      · rw [if_pos h2]
        refine ⟨-1, M, zI M 98 0 0, rfl, ?_, h'.z⟩
        unfold gX10_wet
        rw [zlet_eq, zcI_some (hz0.2.1.thing _), e, if_neg (show ¬ (1 : Int32) = 0 by decide), if_neg h1, if_pos h2]
      · have q8 : ∀ e : Option (Int32 × zM), zg (zok (nI t) 8) e = e := fun e => zg_true (zok_nI (show t < 8 by omega) (by omega))
        have q184 : ∀ e : Option (Int32 × zM), zg (zok (nI t) 184) e = e := fun e => zg_true (zok_nI (show t < 184 by omega) (by omega))
        rw [if_neg h2, q8, nI_cl (by omega), show M.1 63 t = V 8 t from c3.tt (c := 8) (by omega) (by omega) ht, show M.1 64 t = V 9 t from c3.tt (c := 9) (by omega) (by omega) ht]
        by_cases h3 : V 8 t = 0
        · rw [if_pos h3, q8]
          have hC' := hC
          obtain ⟨p, c1, c2, _, c4, c5, c6, c7, c8⟩ := hC'
          obtain ⟨M1, f1, f2, f3, f4, f5, f6, f7, f8⟩ := c_noted (M := M) (N := D.1) (a := 3) (b := nI t) (c := V 9 t) c5.1 c5.2.1
          rw [zcV_some f1, q8, q8, zlet_eq, q8, show M1.1 64 t = V 9 t from (f3 64 t (by omega)).trans (c3.tt (c := 9) (by omega) (by omega) ht), zI_at]
          have hx : ∃ v : Int32, v = (if V 9 t + y < 999 then V 9 t + y else 999) := ⟨_, rfl⟩
          obtain ⟨v, hv⟩ := hx
          rw [← hv]
          have hcv : cV (zI M1 64 t v) q 55 (vset V 9 t v) := cV.put (c := 9) (c3.mono (fun a i z1 z2 _ => f3 a i (by omega))) (vdT (by omega) (by omega) ht)
          have hu : sUndo q.1 q.2.1 3 (nI t) (V 9 t) (vset V 9 t v) = V := by
            unfold sUndo
            rw [if_pos rfl, nI_cl (by omega), vset_twice]
            exact vset_same rfl
          have hC1 : CR (zI M1 64 t v) q (vset V 9 t v) I (dPush V D) S B F := hC.world (fun a i z1 z2 z3 => by rw [zI_of (by omega), f3 a i z3]) (fun a _ => by show M1.2.2 a = _; rw [f2]) hcv (c5.push (a := 3) (b := nI t) (c := V 9 t) (by rw [zI_of (by omega)]; exact f4) (fun a i z1 z2 z3 => by rw [zI_of (by omega)]; exact f5 a i z1 z2 z3) (by rw [zI_of (by omega)]; exact f6) (by rw [zI_of (by omega)]; exact f7) (by rw [zI_of (by omega)]; exact f8) ⟨t, rfl, by rw [if_pos rfl]; exact ht⟩ hu)
          have hM1 : MR (zI M1 64 t v) q V I D S B F := hM.mono (fun a i d => by
            have d' : 98 ≤ a := by unfold dM at d; omega
            rw [zI_of (by omega), f3 a i (by omega)])
          have hz := hM1.z (y := 0)
          obtain ⟨M2, k1, k2, k3, k4⟩ := r_keepNow hz
          have hv2 : mV (zI M2 131 t v) q 0 (vset V 9 t v) := by
            have := k2.2.2.1.put (c := 9) (k := t) (x := v) (vdT (by omega) (by omega) ht) (by omega) (by omega)
            rw [show (ma 0 9 t).1 = 131 from rfl, show (ma 0 9 t).2 = 8 * 0 + t from rfl, Nat.mul_zero, Nat.zero_add] at this
            exact this
          refine ⟨v, zI M1 64 t v, zI M2 131 t v, rfl, ?_, q, vset V 9 t v, I, dPush V D, S, B, F, hA.push ?_, ?_, ?_⟩
          · unfold gX10_wet
            rw [zlet_eq, zcI_some (hz.2.1.thing _), e, if_neg (show ¬ (1 : Int32) = 0 by decide), if_neg h1, if_neg h2, q184, nI_cl (by omega), (m8 hz).1, if_pos h3, zcV_some k1, q184, q184, (m8 k2).2, ← hv, zlet_eq, q184, zI_at]
          · exact hA.2.1.rows (fun c hc => by rw [vset_row (by omega)])
          · refine hC1.mono (fun a i d _ => ?_) (fun a _ _ => ?_)
            · have : a < 98 := by unfold dC at d; omega
              rw [zI_of (by omega), k4 a i this, zI_of (by omega)]
            · show M2.2.2 a = _; rw [k3]; rfl
          · refine k2.now (fun a i d w => ?_) hv2
            rw [zI_CF (CF_0t (by omega) (by omega) (by omega)) w]
        · rw [if_neg h3]
          refine ⟨-1, M, zI M 98 0 0, rfl, ?_, h'.z⟩
          unfold gX10_wet
          rw [zlet_eq, zcI_some (hz0.2.1.thing _), e, if_neg (show ¬ (1 : Int32) = 0 by decide), if_neg h1, if_neg h2, q184, nI_cl (by omega), (m8 hz0).1, if_neg h3]
