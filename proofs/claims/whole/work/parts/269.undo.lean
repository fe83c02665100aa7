/-! swap, undo, keep, back -/
theorem ffstF_none {P : Nat → Bool} {d j : Nat} (h : ffstF P j d = none) : ∀ k, j ≤ k → k < j + d → P k = false := by
  induction d generalizing j with
  | zero => intro k h1 h2; omega
  | succ d ih =>
    intro k h1 h2
    unfold ffstF at h
    cases hp : P j with
    | true => rw [hp] at h; cases h
    | false =>
      rw [hp] at h
      by_cases e : k = j
      · rw [e]; exact hp
      · exact ih h k (by omega) (by omega)
theorem ffst_none {P : Nat → Bool} {n : Nat} (h : ffst P n = none) : ∀ k, k < n → P k = false := fun k hk => ffstF_none h k (by omega) (by omega)
theorem ffst_uniq {P : Nat → Bool} {n i : Nat} (hi : i < n) (hp : P i = true) (hu : ∀ k, k < n → P k = true → k = i) : ffst P n = some i := by
  cases h : ffst P n with
  | none => have := ffst_none h i hi; rw [hp] at this; cases this
  | some k => obtain ⟨h1, h2, _⟩ := ffst_some h; rw [hu k h1 h2]
theorem pig : ∀ (n : Nat) (f : Nat → Nat), (∀ k, k < n → f k < n) → (∀ i j, i < n → j < n → f i = f j → i = j) → ∀ m, m < n → ∃ k, k < n ∧ f k = m := by
  intro n
  induction n with
  | zero => intro _ _ _ m hm; omega
  | succ n ih =>
    intro f hf hj m hm
    have hg := ih (fun k => if f k = n then f n else f k) (fun k hk => by
        have a := hf k (by omega)
        have b := hf n (by omega)
        show (if f k = n then f n else f k) < n
        split
        · rename_i e
          have : f n ≠ n := fun w => by have := hj k n (by omega) (by omega) (by omega); omega
          omega
        · omega) (fun i j hi hj' e => by
        have e' : (if f i = n then f n else f i) = (if f j = n then f n else f j) := e
        split at e' <;> split at e'
        · exact hj i j (by omega) (by omega) (by omega)
        · have := hj n j (by omega) (by omega) e'; omega
        · have := hj i n (by omega) (by omega) e'; omega
        · exact hj i j (by omega) (by omega) e')
    by_cases hm' : m = f n
    · exact ⟨n, by omega, hm'.symm⟩
    · by_cases hmn : m < n
      · obtain ⟨k, hk, e⟩ := hg m hmn
        have e' : (if f k = n then f n else f k) = m := e
        split at e'
        · exact absurd e'.symm hm'
        · exact ⟨k, by omega, e'⟩
      · have hb := hf n (by omega)
        obtain ⟨k, hk, e⟩ := hg (f n) (by omega)
        have e' : (if f k = n then f n else f k) = f n := e
        split at e'
        · rename_i w; exact ⟨k, by omega, by omega⟩
        · have := hj k n (by omega) (by omega) e'; omega
theorem place {q : PPt} {V : AV} (hn : q.1 ≤ 6) (h : wI q V) {m : Nat} (hm : m < q.1) : ∃ i, i < q.1 ∧ V 1 i = nI m ∧ ffst (fun k => V 1 k == nI m) q.1 = some i := by
  have hr := h.1.1
  have hp := h.2.2.1
  obtain ⟨i, hi, e⟩ := pig q.1 (fun k => (V 1 k).toNatClampNeg) (fun k hk => by
      obtain ⟨m, hm, e⟩ := hr k hk
      show (V 1 k).toNatClampNeg < _
      rw [e, nI_cl (by omega)]; exact hm) (fun i j hi hj e => by
      obtain ⟨a, ha, ea⟩ := hr i hi
      obtain ⟨b, hb, eb⟩ := hr j hj
      have e' : (V 1 i).toNatClampNeg = (V 1 j).toNatClampNeg := e
      rw [ea, eb, nI_cl (by omega), nI_cl (by omega)] at e'
      exact hp i j hi hj (by rw [ea, eb, e'])) m hm
  have ei : V 1 i = nI m := by
    obtain ⟨a, ha, ea⟩ := hr i hi
    have e' : (V 1 i).toNatClampNeg = m := e
    rw [ea, nI_cl (by omega)] at e'
    rw [ea, e']
  refine ⟨i, hi, ei, ffst_uniq hi (by simp [ei]) (fun k hk w => ?_)⟩
  have w' : V 1 k = nI m := by simpa using w
  exact hp k i hk hi (by rw [w', ei])
def sSwap (V : AV) (i j : Nat) (x y : Int32) : AV := vset (vset V 1 i y) 1 j x
theorem c_change {M : zM} {q : PPt} {V : AV} {p i j : Nat} {x y : Int32} (hr : M.2.2 55 0 = some p) (hP : cPl M p q) (hV : cV M q 55 V) (hn : q.1 ≤ 6) (hx : ffst (fun k => V 1 k == x) q.1 = some i) (hy : ffst (fun k => V 1 k == y) q.1 = some j) :
    gX8_changePlaces 55 x y M = some (zI (zI M 56 i y) 56 j x) ∧ cV (zI (zI M 56 i y) 56 j x) q 55 (sSwap V i j x y) := by
  obtain ⟨i1, i2, i3⟩ := ffst_some hx
  obtain ⟨j1, j2, j3⟩ := ffst_some hy
  have ep : ∀ z, ffst (fun k => M.1 56 k == z) q.1 = ffst (fun k => V 1 k == z) q.1 := fun z => ffst_congr (fun k hk => by rw [show M.1 56 k = V 1 k from hV.mm (c := 1) (by omega) (by omega) hk])
  have pl : ∀ z, gX8_placeOf 55 z M = some (oN (ffst (fun k => V 1 k == z) q.1)) := fun z => by
    unfold gX8_placeOf
    rw [zgP_some hr hP.1.1, hP.1.2.1.1, zcI_some (s_find (by omega) (by omega)), ep]
  refine ⟨?_, ?_⟩
  · unfold gX8_changePlaces
    rw [zcI_some (pl x), zcI_some (pl y), hx, hy, show oN (some i) = nI i from rfl, show oN (some j) = nI j from rfl, if_neg (nI_pos (by omega)), if_neg (nI_pos (by omega)), zg_true (zok_nI (show i < 6 by omega) (by omega)), zlet_eq, zg_true (zok_nI (show j < 6 by omega) (by omega)), zlet_eq, nI_cl (by omega), nI_cl (by omega)]
  · exact (hV.put (c := 1) (vdN (by omega) (by omega) i1)).put (c := 1) (vdN (by omega) (by omega) j1)
theorem swap_facts {q : PPt} {V : AV} (hn : q.1 ≤ 6) (h : wI q V) {a b i j : Nat} (ha : a < q.1) (hb : b < q.1) (hab : a ≠ b) (hi : i < q.1) (hj : j < q.1) (ei : V 1 i = nI a) (ej : V 1 j = nI b) : wI q (sSwap V i j (nI a) (nI b)) ∧ sUndo q.1 q.2.1 1 (nI a) (nI b) (sSwap V i j (nI a) (nI b)) = V := by
  have hne : nI a ≠ nI b := fun w => hab (by have := congrArg Int32.toInt w; rw [nI_toInt (by omega), nI_toInt (by omega)] at this; omega)
  have hij : i ≠ j := fun w => hne (by rw [← ei, ← ej, w])
  have s1 : sSwap V i j (nI a) (nI b) 1 i = nI b := by unfold sSwap; rw [vset_ne (by omega), vset_at]
  have s2 : sSwap V i j (nI a) (nI b) 1 j = nI a := by unfold sSwap; rw [vset_at]
  have s3 : ∀ k, k ≠ i → k ≠ j → sSwap V i j (nI a) (nI b) 1 k = V 1 k := fun k h1 h2 => by unfold sSwap; rw [vset_ne (by omega), vset_ne (by omega)]
  have s4 : ∀ c, c ≠ 1 → sSwap V i j (nI a) (nI b) c = V c := fun c hc => by unfold sSwap; rw [vset_row hc, vset_row hc]
  have hp := h.2.2.1
  have key : ∀ k, k < q.1 → (sSwap V i j (nI a) (nI b) 1 k = nI a → k = j) ∧ (sSwap V i j (nI a) (nI b) 1 k = nI b → k = i) := fun k hk => by
    by_cases k1 : k = i
    · subst k1; rw [s1]; exact ⟨fun w => absurd w.symm hne, fun _ => rfl⟩
    · by_cases k2 : k = j
      · subst k2; rw [s2]; exact ⟨fun _ => rfl, fun w => absurd w hne⟩
      · rw [s3 k k1 k2]
        exact ⟨fun w => absurd (hp k i hk hi (by rw [w, ei])) k1, fun w => absurd (hp k j hk hj (by rw [w, ej])) k2⟩
  have w' : wI q (sSwap V i j (nI a) (nI b)) := by
    refine ⟨⟨?_, ?_, ?_⟩, ?_, ?_, ?_⟩
    · intro k hk
      by_cases k1 : k = i
      · subst k1; exact ⟨b, hb, s1⟩
      · by_cases k2 : k = j
        · subst k2; exact ⟨a, ha, s2⟩
        · rw [s3 k k1 k2]; exact h.1.1 k hk
    · have := h.1.2.1
      unfold vIn at this ⊢
      rw [s4 4 (by omega), s4 5 (by omega), s4 6 (by omega)]
      exact this
    · have := h.1.2.2
      unfold vRu at this ⊢
      rw [s4 2 (by omega)]
      exact this
    · have := h.2.1
      unfold vHb at this ⊢
      rw [s4 7 (by omega)]
      exact this
    · intro k l hk hl w
      by_cases k1 : k = i
      · subst k1; rw [s1] at w; exact ((key l hl).2 w.symm).symm
      · by_cases k2 : k = j
        · subst k2; rw [s2] at w; exact ((key l hl).1 w.symm).symm
        · by_cases l1 : l = i
          · subst l1; rw [s1] at w; exact (key k hk).2 w
          · by_cases l2 : l = j
            · subst l2; rw [s2] at w; exact (key k hk).1 w
            · rw [s3 k k1 k2, s3 l l1 l2] at w; exact hp k l hk hl w
    · have := h.2.2.2
      unfold vGz at this ⊢
      rw [s4 4 (by omega), s4 5 (by omega)]
      exact this
  refine ⟨w', ?_⟩
  unfold sUndo
  rw [if_neg (by decide), if_neg (by decide), if_neg (by decide), ffst_uniq hj (by simp [s2]) (fun k hk w => (key k hk).1 (by simpa using w)), ffst_uniq hi (by simp [s1]) (fun k hk w => (key k hk).2 (by simpa using w))]
  dsimp only
  funext c k
  by_cases hc : c = 1
  · subst hc
    by_cases k1 : k = i
    · subst k1; rw [vset_at, ei]
    · rw [vset_ne (by omega)]
      by_cases k2 : k = j
      · subst k2; rw [vset_at, ej]
      · rw [vset_ne (by omega), s3 k k1 k2]
  · rw [vset_row hc, vset_row hc, s4 c hc]
theorem r_place {M : zM} {q : PPt} {V : AV} {x : Int32} (hP : mPl M q) (hV : mV M q 0 V) (hn : q.1 ≤ 6) : gX10_placeOf x M = some (oN (ffst (fun k => V 1 k == x) q.1)) := by
  unfold gX10_placeOf
  have e1 : ∀ k, k < q.1 → M.1 129 k = V 1 k := fun k hk => by
    have := hV.mm (c := 1) (by omega) (by omega) (by omega) hk
    rw [Nat.mul_zero, Nat.zero_add] at this
    exact this
  rw [zfix_find (B := gX10_placeOf_L2 x M) (fun k => nI k) (fun k => V 1 k == x) (fun k => some (nI k)) (some (-1)) q.1 nI_0.symm (by unfold zFu; omega) ?_ ?_ ?_]
  · cases ffst (fun k => V 1 k == x) q.1 <;> rfl
  · intro k hk hp rc
    unfold gX10_placeOf_L2
    rw [cl0, hP.1.1.1, if_neg (nI_ge hk (by omega)), zg_true (zok_nI (show k < 138 by omega) (by omega)), nI_cl (by omega), e1 k hk, if_neg (by simpa using hp), nI_1]
  · intro k hk hp rc
    unfold gX10_placeOf_L2
    rw [cl0, hP.1.1.1, if_neg (nI_ge hk (by omega)), zg_true (zok_nI (show k < 138 by omega) (by omega)), nI_cl (by omega), e1 k hk, if_pos (by simpa using hp)]
  · intro rc
    unfold gX10_placeOf_L2
    rw [cl0, hP.1.1.1, if_pos (nI_le (Nat.le_refl _) (by omega))]
theorem k_swap {M : zM} (h : Rel M) (x y : Int32) : ∃ r M1 M2, gX9_swap x y M = some (r, M1) ∧ gX10_swap x y M1 = some (r, M2) ∧ Rel M2 := by
  have h' := h
  obtain ⟨q, V, I, D, S, B, F, hA, hC, hM⟩ := h
  have hn := hA.1.1.1
  have hz0 := hM.z (y := 0)
  unfold gX9_swap
  rw [zcI_some (hC.two x y)]
  rcases isTwo_cases (n := q.1) (by omega) x y with e | ⟨e, a, b, ha, hb, hab, rfl, rfl⟩
  · rw [e, if_pos rfl]
    refine ⟨0, M, zI M 98 0 0, rfl, ?_, h'.z⟩
    unfold gX10_swap
    rw [zlet_eq, zcI_some (hz0.2.1.man x), zcI_some (hz0.2.1.man y)]
    unfold isTwo at e
    by_cases e1 : isM q.1 x = 0
    · rw [if_pos e1]
    · rw [if_neg e1] at e ⊢
      by_cases e2 : isM q.1 y = 0
      · rw [if_pos e2]
      · rw [if_neg e2] at e ⊢
        by_cases e3 : x = y
        · rw [if_pos e3]
        · rw [if_neg e3] at e
          exact absurd e (by decide)
  · have hM1' : ∀ {N : zM}, MR N q V I D S B F → gX10_isMan (nI a) N = some 1 ∧ gX10_isMan (nI b) N = some 1 := fun hN => by
      rw [hN.2.1.man, hN.2.1.man]
      unfold isM
      rw [if_neg (nI_pos (by omega)), if_neg (nI_ge ha (by omega)), if_neg (nI_pos (by omega)), if_neg (nI_ge hb (by omega))]
      exact ⟨rfl, rfl⟩
    have hne : ¬ nI a = nI b := fun w => hab (by have := congrArg Int32.toInt w; rw [nI_toInt (by omega), nI_toInt (by omega)] at this; omega)
    obtain ⟨i, hi, ei, fi⟩ := place hn hA.2.1 ha
    obtain ⟨j, hj, ej, fj⟩ := place hn hA.2.1 hb
    obtain ⟨w', hu⟩ := swap_facts hn hA.2.1 ha hb hab hi hj ei ej
    have hC' := hC
    obtain ⟨p, c1, c2, c3, _⟩ := hC'
    obtain ⟨s1, s2⟩ := c_change c1.2.1 c2 c3 hn fi fj
    obtain ⟨M1, g1, g2, g3, g4, g5⟩ := c_deed (Mw := zI (zI M 56 i (nI b)) 56 j (nI a)) (a := 1) (b := nI a) (c := nI b) hC (fun z k w => by rw [zI_of (by omega), zI_of (by omega)]) rfl s2 ⟨a, rfl, by rw [if_neg (by decide)]; exact ha⟩ hu
    rw [e, if_neg (show ¬ (1 : Int32) = 0 by decide), zcV_some s1, zcV_some g1]
    have hM1 : MR M1 q V I D S B F := hM.mono (fun a i d => g3 a i (by unfold dM at d; omega))
    have hz := hM1.z (y := 0)
    obtain ⟨M2, k1, k2, k3, k4⟩ := r_keepNow hz
    have hv2 : mV (zI (zI M2 129 i (nI b)) 129 j (nI a)) q 0 (sSwap V i j (nI a) (nI b)) := by
      have a1 := k2.2.2.1.put (c := 1) (k := i) (x := nI b) (vdN (by omega) (by omega) hi) (by omega) (by omega)
      rw [show (ma 0 1 i).1 = 129 from rfl, show (ma 0 1 i).2 = 6 * 0 + i from rfl, Nat.mul_zero, Nat.zero_add] at a1
      have a2 := a1.put (c := 1) (k := j) (x := nI a) (vdN (by omega) (by omega) hj) (by omega) (by omega)
      rw [show (ma 0 1 j).1 = 129 from rfl, show (ma 0 1 j).2 = 6 * 0 + j from rfl, Nat.mul_zero, Nat.zero_add] at a2
      exact a2
    refine ⟨1, M1, zI (zI M2 129 i (nI b)) 129 j (nI a), rfl, ?_, q, sSwap V i j (nI a) (nI b), I, dPush V D, S, B, F, hA.push w', ?_, ?_⟩
    · unfold gX10_swap
      rw [zlet_eq, zcI_some (hM1' hz).1, if_neg (show ¬ (1 : Int32) = 0 by decide), zcI_some (hM1' hz).2, if_neg (show ¬ (1 : Int32) = 0 by decide), if_neg hne, zcV_some k1, zcI_some (r_place k2.2.1 k2.2.2.1 hn), zcI_some (r_place k2.2.1 k2.2.2.1 hn), fi, fj, show oN (some i) = nI i from rfl, show oN (some j) = nI j from rfl, zg_true (zok_nI (show i < 138 by omega) (by omega)), zlet_eq, zg_true (zok_nI (show j < 138 by omega) (by omega)), zlet_eq, nI_cl (by omega), nI_cl (by omega)]
    · refine g2.mono (fun a i d _ => ?_) (fun a _ _ => ?_)
      · have : a < 98 := by unfold dC at d; omega
        rw [zI_of (by omega), zI_of (by omega), k4 a i this, zI_of (by omega)]
      · show M2.2.2 a = _; rw [k3]; rfl
    · refine k2.now (fun a i d w => ?_) hv2
      rw [zI_CF (CF_0m (by omega) (by omega) (by omega)) w, zI_CF (CF_0m (by omega) (by omega) (by omega)) w]
/-! undo -/
theorem c_undo {M : zM} {q : PPt} {V : AV} {p : Nat} {a b c : Int32} (hr : cRf M p) (hP : cPl M p q) (hV : cV M q 55 V) (hq : pI q) (hI : wI q V) (ho : dOk q.1 q.2.1 a b) :
    ∃ M1, (if a = 3 then zcV (gX9_undoWetting b c M) (fun M16_ => some ((M16_.1 85 0), M16_))
  else zcI (gX9_isMan b M) (fun v12_ => (if v12_ = 0 then some ((M.1 85 0), M)
  else zcV (gX9_undoToMan a b c M) (fun M14_ => some ((M14_.1 85 0), M14_))))) = some (M.1 85 0, M1) ∧ (∀ x i, ¬ (55 ≤ x ∧ x ≤ 64) → M1.1 x i = M.1 x i) ∧ M1.2 = M.2 ∧ cV M1 q 55 (sUndo q.1 q.2.1 a b c V) := by
  obtain ⟨k, rfl, hk⟩ := ho
  have hn := hq.1.1
  have hT := hq.1.2.1
  unfold sUndo
  by_cases h3 : a = 3
  · rw [if_pos h3] at hk
    rw [if_pos h3, if_pos h3, nI_cl (by omega)]
    unfold gX9_undoWetting gX9_isThing
    rw [if_neg (nI_pos (by omega)), zgP_some hr.1 hP.1.1, hP.1.2.2.1.1, if_neg (nI_ge hk (by omega)), zcI_some rfl, if_neg (show ¬ (1 : Int32) = 0 by decide), zg_true (zok_nI (show k < 8 by omega) (by omega)), zlet_eq, nI_cl (by omega), zcV_some rfl, zI_of (by omega)]
    exact ⟨_, rfl, fun x i z => zI_of (by omega), rfl, hV.put (c := 9) (vdT (by omega) (by omega) hk)⟩
  · rw [if_neg h3] at hk
    have him : gX9_isMan (nI k) M = some 1 := by
      unfold gX9_isMan
      rw [if_neg (nI_pos (by omega)), zgP_some hr.1 hP.1.1, hP.1.2.1.1, if_neg (nI_ge hk (by omega))]
    rw [if_neg h3, if_neg h3, zcI_some him, if_neg (show ¬ (1 : Int32) = 0 by decide)]
    unfold gX9_undoToMan
    by_cases h0 : a = 0
    · rw [if_pos h0, if_pos h0, zlet_eq, zg_true (zok_nI (show k < 6 by omega) (by omega)), zg_true (zok_nI (show k < 6 by omega) (by omega)), zlet_eq, nI_cl (by omega), zcV_some rfl, zI_of (by omega), zI_of (by omega)]
      rw [show M.1 55 12 = V 0 12 from hV.oo (by omega) (by omega), show (zI M 55 12 (V 0 12 + c)).1 58 k = V 3 k by rw [zI_of (by omega)]; exact hV.mm (c := 3) (by omega) (by omega) hk]
      refine ⟨_, rfl, fun x i z => by rw [zI_of (by omega), zI_of (by omega)], rfl, ?_⟩
      exact (c_put12 hV).put (c := 3) (vdN (by omega) (by omega) hk)
    · rw [if_neg h0, if_neg h0]
      by_cases h2 : a = 2
      · rw [if_pos h2, if_pos h2, zg_true (zok_nI (show k < 6 by omega) (by omega)), nI_cl (by omega), show M.1 62 k = V 7 k from hV.mm (c := 7) (by omega) (by omega) hk]
        by_cases h7 : V 7 k = 0
        · rw [if_pos h7, if_pos h7, zg_true (zok_nI (show k < 6 by omega) (by omega)), zlet_eq, zcV_some rfl, nar_b (Or.inr rfl), zI_of (by omega)]
          exact ⟨_, rfl, fun x i z => zI_of (by omega), rfl, hV.put (c := 7) (vdN (by omega) (by omega) hk)⟩
        · rw [if_neg h7, if_neg h7, zg_true (zok_nI (show k < 6 by omega) (by omega)), zlet_eq, zcV_some rfl, nar_b (Or.inl rfl), zI_of (by omega)]
          exact ⟨_, rfl, fun x i z => zI_of (by omega), rfl, hV.put (c := 7) (vdN (by omega) (by omega) hk)⟩
      · rw [if_neg h2, if_neg h2]
        obtain ⟨i, hi, ei, fi⟩ := place hn hI hk
        rw [fi]
        cases fc : ffst (fun k => V 1 k == c) q.1 with
        | some j =>
          obtain ⟨s1, s2⟩ := c_change hr.2.1 hP hV hn fi fc
          rw [zcV_some s1, zcV_some rfl, zI_of (by omega), zI_of (by omega)]
          exact ⟨_, rfl, fun x i z => by rw [zI_of (by omega), zI_of (by omega)], rfl, s2⟩
        | none =>
          have ep : ∀ z, ffst (fun k => M.1 56 k == z) q.1 = ffst (fun k => V 1 k == z) q.1 := fun z => ffst_congr (fun k hk => by rw [show M.1 56 k = V 1 k from hV.mm (c := 1) (by omega) (by omega) hk])
          have pl : ∀ z, gX8_placeOf 55 z M = some (oN (ffst (fun k => V 1 k == z) q.1)) := fun z => by
            unfold gX8_placeOf
            rw [zgP_some hr.2.1 hP.1.1, hP.1.2.1.1, zcI_some (s_find (by omega) (by omega)), ep]
          have : gX8_changePlaces 55 (nI k) c M = some M := by
            unfold gX8_changePlaces
            rw [zcI_some (pl _), zcI_some (pl _), fi, fc, show oN (some i) = nI i from rfl, show oN none = -1 from rfl, if_neg (nI_pos (by omega)), if_pos (by decide)]
          rw [zcV_some this, zcV_some rfl]
          exact ⟨_, rfl, fun _ _ _ => rfl, rfl, hV⟩
theorem k_undo {M : zM} (h : Rel M) : ∃ r M1 M2, gX9_undo M = some (r, M1) ∧ gX10_undo M1 = some (r, M2) ∧ Rel M2 := by
  have h' := h
  obtain ⟨q, V, I, D, S, B, F, hA, hC, hM⟩ := h
  have hn := hA.1.1.1
  have hT := hA.1.1.2.1
  have hC' := hC
  obtain ⟨p, c1, c2, c3, c4, c5, c6, c7, c8⟩ := hC'
  unfold gX9_undo
  rw [c5.1]
  rcases Nat.eq_zero_or_pos D.1 with e0 | e0
  · rw [e0, if_pos (by decide)]
    refine ⟨-1, M, zI M 98 0 0, rfl, ?_, h'.z⟩
    unfold gX10_undo
    rw [zlet_eq, hM.z.2.2.2.2.1.1, e0, if_pos nI_0]
  · obtain ⟨k, ek⟩ : ∃ k, D.1 = k + 1 := ⟨D.1 - 1, by omega⟩
    have h20 := c5.2.1
    have q20 : ∀ e : Option (Int32 × zM), zg (zok (nI k) 20) e = e := fun e => zg_true (zok_nI (by omega) (by omega))
    rw [ek, if_neg (by rw [nI_lit1, nI_lt_iff (by omega) (by omega)]; omega), lit20, if_pos (nI_le (by omega) (by omega)), nI_dec, zlet_eq, zI_at, q20, zlet_eq, q20, zlet_eq, q20, zlet_eq, nI_cl (by omega), zI_of (by omega), zI_of (by omega), zI_of (by omega)]
    have o := c5.2.2 k (by omega)
    have hdn : dNx V D k = V := by unfold dNx; rw [if_neg (by omega)]
    rw [hdn] at o
    have hC0 : cRf (zI M 85 0 (nI k)) p := c1
    have hP0 : cPl (zI M 85 0 (nI k)) p q := c2.mono (fun a i z1 z2 => zI_of (by have := isPl_lt c2.1.1; omega))
    have hV0 : cV (zI M 85 0 (nI k)) q 55 V := c3.mono (fun a i z1 z2 _ => zI_of (by omega))
    obtain ⟨M1, u1, u2, u3, u4⟩ := c_undo (c := M.1 88 k) hC0 hP0 hV0 hA.1 hA.2.1 o.1
    rw [zI_at] at u1
    rw [u1]
    rw [o.2] at u4
    have fr : ∀ x i, ¬ (55 ≤ x ∧ x ≤ 64) → ¬ (x = 85 ∧ i = 0) → M1.1 x i = M.1 x i := fun x i z1 z2 => by rw [u2 x i z1, zI_of z2]
    have hC1 : CR M1 q (D.2 k) I (k, D.2) S B F := by
      refine hC.world (fun a i z1 z2 z3 => fr a i z2 (by omega)) (fun a _ => by rw [u3]; rfl) u4 ⟨?_, by show k ≤ 20; omega, fun j hj => ?_⟩
      · rw [u2 85 0 (by omega), zI_at]
      · have hj' : j < k := hj
        rw [fr 86 j (by omega) (by omega), fr 87 j (by omega) (by omega), fr 88 j (by omega) (by omega)]
        have oj := c5.2.2 j (by omega)
        refine ⟨oj.1, ?_⟩
        show _ = D.2 j
        rw [← oj.2]
        congr 1
        unfold dNx
        show (if j + 1 < k then D.2 (j + 1) else D.2 k) = _
        rw [if_pos (show j + 1 < D.1 by omega)]
        by_cases hjk : j + 1 < k
        · rw [if_pos hjk]
        · rw [if_neg hjk, show k = j + 1 by omega]
    have hM1 : MR M1 q V I D S B F := hM.mono (fun a i d => fr a i (by unfold dM at d; omega) (by unfold dM at d; omega))
    have hz := hM1.z (y := 0)
    obtain ⟨M2, e1, e2, e3, e4, e5, e6⟩ := r_copies (M := zI (zI M1 98 0 0) 98 50 (nI k)) (a := 0) (b := 3 + k) (by omega) (by omega) (by omega)
    have hz2 : MR (zI (zI M1 98 0 0) 98 50 (nI k)) q V I (k, D.2) S B F := by
      have ev : ∀ f, vM q.1 q.2.1 (zI (zI M1 98 0 0) 98 50 (nI k)) f = vM q.1 q.2.1 (zI M1 98 0 0) f := fun f => vM_98 (by omega) (by omega)
      refine hz.dd (fun a i _ z => zI_of z) ⟨zI_at, by show k ≤ 20; omega, fun j hj => ?_⟩
      have hj' : j < k := hj
      unfold mV
      rw [ev]
      exact hz.2.2.2.2.1.2.2 j (by omega)
    have hv : mV M2 q 0 (D.2 k) := by
      unfold mV
      rw [vM_copied hn hT e3 e4 e5 e6, vM_98 (by omega) (by omega)]
      exact hz.2.2.2.2.1.2.2 k (by omega)
    refine ⟨nI k, M1, M2, rfl, ?_, q, D.2 k, I, (k, D.2), S, B, F, ⟨hA.1, hA.2.2.2.1 k (by omega), hA.2.2.1, fun j hj => hA.2.2.2.1 j (by have : j < k := hj; omega), hA.2.2.2.2⟩, ?_, ?_⟩
    · unfold gX10_undo
      rw [zlet_eq, hz.2.2.2.2.1.1, ek, if_neg (by rw [← nI_0]; intro w; have := congrArg Int32.toInt w; rw [nI_toInt (by omega), nI_toInt (by omega)] at this; omega), nI_dec, zlet_eq, zI_at, nI_lit3, nI_add, zcV_some (show gX10_copies 0 (nI (3 + k)) _ = some M2 from e1), e3 98 50 (CF_lo (by omega)), zI_at]
    · refine hC1.mono (fun a i d _ => ?_) (fun a _ _ => ?_)
      · have : a < 98 := by unfold dC at d; omega
        rw [e3 a i (CF_lo (by omega)), zI_of (by omega), zI_of (by omega)]
      · rw [e2]; rfl
    · exact hz2.now (fun a i _ w => e3 a i w) hv
/-! keep, back -/
theorem k_keep {M : zM} (h : Rel M) : ∃ r M1 M2, gX9_keep M = some (r, M1) ∧ gX10_keep M1 = some (r, M2) ∧ Rel M2 := by
  obtain ⟨q, V, I, D, S, B, F, hA, hC, hM⟩ := h
  have hn := hA.1.1.1
  have hT := hA.1.1.2.1
  obtain ⟨p, c1, c2, c3, c4, c5, c6, c7, c8⟩ := hC
  have hp5 := isPl_lt c2.1.1
  obtain ⟨Mb, b1, b2, b3, b4, b5⟩ := s_becomes (M := M) (w := 75) (v := 55) (p := p) (n := q.1) (T := q.2.1) (Or.inr (Or.inr rfl)) (Or.inl rfl) (by omega) c1.2.1 c2.1.1 hn hT (fun k hk => by rw [show vC q.1 q.2.1 M 55 = V from c3]; exact hA.2.1.2.1 k hk)
  have fr : ∀ x i, ¬ (75 ≤ x ∧ x ≤ 84) → ¬ (x = 0 ∧ i = 10) → (zI Mb 0 10 1).1 x i = M.1 x i := fun x i z1 z2 => by rw [zI_of z2, b2 x (by omega)]
  have rfr : ∀ x, x ≠ 75 → (zI Mb 0 10 1).2.2 x = M.2.2 x := fun x z => by
    show Mb.2.2 x = _
    rw [b4]
    funext i
    exact zF_of (by omega)
  have e10 : (zI Mb 0 10 1).1 55 10 = V 0 10 := by rw [fr 55 10 (by omega) (by omega)]; exact c3.oo (by omega) (by omega)
  have hC1 : CR (zI Mb 0 10 1) q V (some V) D S B F := by
    refine ⟨p, ⟨by rw [rfr 0 (by omega)]; exact c1.1, by rw [rfr 55 (by omega)]; exact c1.2.1, by rw [rfr 0 (by omega)]; exact c1.2.2⟩, c2.mono (fun a i z1 z2 => fr a i (by omega) (by have hh := zisPl_of c2.1.1; unfold isPl at hh; omega)), c3.mono (fun a i z1 z2 _ => fr a i (by omega) (by omega)), ⟨zI_at, fun J hJ => ?_⟩, c5.mono (fun a i z1 z2 => fr a i (by omega) (by omega)), c6.mono (fun a i z1 z2 => fr a i (by omega) (by omega)), c7.mono (fr _ _ (by omega) (by omega)) (fun i => fr _ _ (by omega) (by omega)), c8.mono (fr _ _ (by omega) (by omega)) (fr _ _ (by omega) (by omega))⟩
    cases hJ
    refine ⟨?_, ?_⟩
    · show Mb.2.2 75 0 = _
      rw [b4]; exact zF_at
    · have : cV Mb q 75 V := by unfold cV; rw [b5]; exact c3
      exact this.mono (fun a i z1 z2 _ => zI_of (by omega))
  have hM1 : MR (zI Mb 0 10 1) q V I D S B F := hM.mono (fun a i d => fr a i (by unfold dM at d; omega) (by unfold dM at d; omega))
  have hz := hM1.z (y := 0)
  obtain ⟨M2, e1, e2, e3, e4, e5, e6⟩ := r_copies (M := zI (zI Mb 0 10 1) 98 0 0) (a := 2) (b := 0) (by omega) (by omega) (by omega)
  have hv : mV (zI M2 98 49 1) q 2 V := by
    unfold mV
    rw [vM_98 (by omega) (by omega), vM_copied hn hT e3 e4 e5 e6]
    exact hz.2.2.1
  have ko : ∀ f J, f ≠ 2 → mV (zI (zI Mb 0 10 1) 98 0 0) q f J → mV (zI M2 98 49 1) q f J := fun f J hf hJ => by
    unfold mV
    rw [vM_98 (by omega) (by omega), vM_other hn hT e3 hf]
    exact hJ
  have k2 : ∀ a i, ¬ (a = 98 ∧ i = 49) → (a < 118 ∨ 131 < a) → (zI M2 98 49 1).1 a i = (zI (zI Mb 0 10 1) 98 0 0).1 a i := fun a i z1 z2 => by
    rw [zI_of z1]
    exact e3 a i (by rcases z2 with z | z; exact CF_lo z; exact CF_hi z)
  unfold gX9_keep
  rw [zcV_some b1, zlet_eq, e10]
  refine ⟨V 0 10, _, zI M2 98 49 1, rfl, ?_, q, V, some V, D, S, B, F, ⟨hA.1, hA.2.1, fun J hJ => by cases hJ; exact hA.2.1, hA.2.2.2⟩, ?_, ?_⟩
  · unfold gX10_keep
    rw [zlet_eq, zcV_some (show gX10_copies 2 0 _ = some M2 from e1), zlet_eq, cl0, show (zI M2 98 49 1).1 118 0 = V 0 10 from (ko 0 V (by omega) hz.2.2.1).oo (k := 10) (by omega) (by omega)]
  · refine hC1.mono (fun a i d _ => ?_) (fun a _ _ => ?_)
    · have : a < 98 := by unfold dC at d; omega
      rw [k2 a i (by omega) (by omega), zI_of (by omega)]
    · show M2.2.2 a = _; rw [e2]; rfl
  · obtain ⟨h1, h2, h3, h4, h5, h6, h7, h8⟩ := hz
    refine ⟨⟨by rw [k2 _ _ (by omega) (by omega)]; exact h1.1, by rw [k2 _ _ (by omega) (by omega)]; exact h1.2⟩, h2.mono (fun a i z1 z2 => k2 a i (by omega) (by omega)), ko _ _ (by omega) h3, ⟨zI_at, fun J hJ => by cases hJ; exact hv⟩, ⟨by rw [k2 _ _ (by omega) (by omega)]; exact h5.1, h5.2.1, fun k hk => ko _ _ (by omega) (h5.2.2 k hk)⟩, h6.mono (k2 _ _ (by omega) (by omega)) (k2 _ _ (by omega) (by omega)) (fun a i z1 z2 => k2 a i (by omega) (by omega)), h7.mono (k2 _ _ (by omega) (by omega)) (fun i => k2 _ _ (by omega) (by omega)), ⟨by rw [k2 _ _ (by omega) (by omega)]; exact h8.1, by rw [k2 _ _ (by omega) (by omega)]; exact h8.2⟩⟩
theorem k_back {M : zM} (h : Rel M) : ∃ r M1 M2, gX9_back M = some (r, M1) ∧ gX10_back M1 = some (r, M2) ∧ Rel M2 := by
  have h' := h
  obtain ⟨q, V, I, D, S, B, F, hA, hC, hM⟩ := h
  have hn := hA.1.1.1
  have hT := hA.1.1.2.1
  have hC' := hC
  obtain ⟨p, c1, c2, c3, c4, c5, c6, c7, c8⟩ := hC'
  have hp5 := isPl_lt c2.1.1
  unfold gX9_back
  rw [c4.1]
  cases hI : I with
  | none =>
    rw [if_pos (show b2i (none : Option AV).isSome = 0 from rfl)]
    refine ⟨-1, M, zI M 98 0 0, rfl, ?_, h'.z⟩
    unfold gX10_back
    rw [zlet_eq, hM.z.2.2.2.1.1, hI, if_pos (show b2i (none : Option AV).isSome = 0 from rfl)]
  | some J =>
    rw [if_neg (show ¬ b2i (some J).isSome = 0 from (by show ¬ (1 : Int32) = 0; decide))]
    obtain ⟨j1, j2⟩ := c4.2 J hI
    have hJ := hA.2.2.1 J hI
    obtain ⟨Mb, b1, b2, b3, b4, b5⟩ := s_becomes (M := M) (w := 55) (v := 75) (p := p) (n := q.1) (T := q.2.1) (Or.inl rfl) (Or.inr (Or.inr rfl)) (by omega) j1 c2.1.1 hn hT (fun k hk => by rw [show vC q.1 q.2.1 M 75 = J from j2]; exact hJ.2.1 k hk)
    have fr : ∀ x i, ¬ (55 ≤ x ∧ x ≤ 64) → ¬ (x = 85 ∧ i = 0) → (zI Mb 85 0 0).1 x i = M.1 x i := fun x i z1 z2 => by rw [zI_of z2, b2 x (by omega)]
    have rfr : ∀ x, (zI Mb 85 0 0).2.2 x = M.2.2 x := fun x => by
      show Mb.2.2 x = _
      rw [b4]
      funext i
      by_cases z : x = 55 ∧ i = 0
      · obtain ⟨rfl, rfl⟩ := z; rw [zF_at, c1.2.1]
      · exact zF_of z
    have hcv : cV (zI Mb 85 0 0) q 55 J := by
      have : cV Mb q 55 J := by unfold cV; rw [b5]; exact j2
      exact this.mono (fun a i z1 z2 _ => zI_of (by omega))
    have e10 : (zI Mb 85 0 0).1 55 10 = J 0 10 := hcv.oo (by omega) (by omega)
    have hC1 : CR (zI Mb 85 0 0) q J I (0, D.2) S B F := hC.world (fun a i z1 z2 z3 => fr a i z2 (by omega)) (fun a _ => rfr a) hcv ⟨zI_at.trans nI_0.symm, by show 0 ≤ 20; omega, fun k hk => absurd hk (by show ¬ k < 0; omega)⟩
    have hM1 : MR (zI Mb 85 0 0) q V I D S B F := hM.mono (fun a i d => fr a i (by unfold dM at d; omega) (by unfold dM at d; omega))
    have hz := hM1.z (y := 0)
    obtain ⟨M2, e1, e2, e3, e4, e5, e6⟩ := r_copies (M := zI (zI Mb 85 0 0) 98 0 0) (a := 0) (b := 2) (by omega) (by omega) (by omega)
    have hv : mV M2 q 0 J := by
      unfold mV
      rw [vM_copied hn hT e3 e4 e5 e6]
      exact hz.2.2.2.1.2 J hI
    have hz2 : MR M2 q J I D S B F := hz.now (fun a i _ w => e3 a i w) hv
    have hz3 : MR (zI M2 98 50 0) q J I (0, D.2) S B F := hz2.dd (fun a i _ z => zI_of z) ⟨zI_at.trans nI_0.symm, by show 0 ≤ 20; omega, fun k hk => absurd hk (by show ¬ k < 0; omega)⟩
    rw [zcV_some b1, zlet_eq, e10]
    refine ⟨J 0 10, _, zI M2 98 50 0, rfl, ?_, q, J, I, (0, D.2), S, B, F, ⟨hA.1, hJ, hA.2.2.1, fun k hk => absurd hk (by show ¬ k < 0; omega), hA.2.2.2.2⟩, ?_, hz3⟩
    · unfold gX10_back
      rw [zlet_eq, hz.2.2.2.1.1, hI, if_neg (show ¬ b2i (some J).isSome = 0 from (by show ¬ (1 : Int32) = 0; decide)), zcV_some (show gX10_copies 0 2 _ = some M2 from e1), zlet_eq, cl0, show (zI M2 98 50 0).1 118 0 = J 0 10 from hz3.2.2.1.oo (k := 10) (by omega) (by omega)]
    · refine hC1.mono (fun a i d _ => ?_) (fun a _ _ => ?_)
      · have : a < 98 := by unfold dC at d; omega
        rw [zI_of (by omega), e3 a i (CF_lo (by omega)), zI_of (by omega)]
      · show M2.2.2 a = _; rw [e2]; rfl
