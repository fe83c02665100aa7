/-! see, strike, known -/
theorem CR.si {M M' : zM} {q : PPt} {V : AV} {I : Option AV} {D : Nat × (Nat → AV)} {S S' : SSt} {B : Nat × (Nat → Int32)} {F : Int32 × Int32} (h : CR M q V I D S B F) (he : ∀ a i, dC a → ¬ (89 ≤ a ∧ a ≤ 93) → M'.1 a i = M.1 a i) (hr : ∀ a, a < 98 → M'.2.2 a = M.2.2 a) (hs : cSi M' S') : CR M' q V I D S' B F := by
  obtain ⟨p, h1, h2, h3, h4, h5, h6, h7, h8⟩ := h
  have g : ∀ a i, (a ≤ 1 ∨ (75 ≤ a ∧ a ≤ 88)) → M'.1 a i = M.1 a i := fun a i z => he a i (by unfold dC; omega) (by omega)
  refine ⟨p, ⟨by rw [hr 0 (by omega)]; exact h1.1, by rw [hr 55 (by omega)]; exact h1.2.1, by rw [hr 0 (by omega)]; exact h1.2.2⟩, h2.mono (fun a i z1 z2 => he a i (pl_dC h2.1.1 z1 z2) ?_), h3.mono (fun a i z1 z2 z3 => he a i (by unfold dC; omega) (by omega)), h4.mono (g _ _ (by omega)) (fun a i z1 z2 => g a i (by omega)) (by rw [hr 75 (by omega)]), h5.mono (fun a i z1 z2 => g a i (by omega)), hs, h7.mono (g _ _ (by omega)) (fun i => g _ _ (by omega)), h8.mono (g _ _ (by omega)) (g _ _ (by omega))⟩
  have := isPl_lt h2.1.1
  omega
theorem MR.si {M M' : zM} {q : PPt} {V : AV} {I : Option AV} {D : Nat × (Nat → AV)} {S S' : SSt} {B : Nat × (Nat → Int32)} {F : Int32 × Int32} (h : MR M q V I D S B F) (he : ∀ a i, ¬ (a = 98 ∧ (i = 61 ∨ i = 62)) → ¬ (137 ≤ a ∧ a ≤ 140) → M'.1 a i = M.1 a i) (hs : mSi M' S') : MR M' q V I D S' B F := by
  have hn : q.1 ≤ 6 := h.2.1.1.1.2
  have hT : q.2.1 ≤ 8 := h.2.1.1.2.1.2
  have key := h.mono (M' := ((fun a i => if a = 98 ∧ (i = 61 ∨ i = 62) ∨ (137 ≤ a ∧ a ≤ 140) then M.1 a i else M'.1 a i), M'.2)) (fun a i _ => by
    dsimp only
    by_cases z : a = 98 ∧ (i = 61 ∨ i = 62) ∨ (137 ≤ a ∧ a ≤ 140)
    · rw [if_pos z]
    · rw [if_neg z]; exact he a i (by omega) (by omega))
  obtain ⟨k1, k2, k3, k4, k5, k6, k7, k8⟩ := key
  have e : ∀ a i, ¬ (a = 98 ∧ (i = 61 ∨ i = 62)) → ¬ (137 ≤ a ∧ a ≤ 140) → M'.1 a i = (if a = 98 ∧ (i = 61 ∨ i = 62) ∨ (137 ≤ a ∧ a ≤ 140) then M.1 a i else M'.1 a i) := fun a i z1 z2 => by rw [if_neg (by omega)]
  have ev : ∀ f J, mV ((fun a i => if a = 98 ∧ (i = 61 ∨ i = 62) ∨ (137 ≤ a ∧ a ≤ 140) then M.1 a i else M'.1 a i), M'.2) q f J → mV M' q f J := fun f J hJ => by
    unfold mV at hJ ⊢
    rw [← hJ]
    refine vM_keeps (fun c k hd => e _ _ ?_ ?_) (e _ _ (by omega) (by omega)) (e _ _ (by omega) (by omega))
    · have := ma_ge (f := f) hd
      omega
    · have : (ma f c k).1 ≤ 131 := by
        rcases vdim_cases hd with ⟨rfl, a1, a2⟩ | ⟨a1, a2, a3⟩ | ⟨a1, a2, a3⟩
        · rw [(ma_0 a1 a2).2]; repeat' split
          all_goals omega
        · rw [(ma_m a1 a2).2]; split <;> omega
        · rw [(ma_t a1 a2).2]; omega
      omega
  exact ⟨⟨by rw [e _ _ (by omega) (by omega)]; exact k1.1, by rw [e _ _ (by omega) (by omega)]; exact k1.2⟩, k2.mono (fun a i z1 z2 => e a i (by omega) (by omega)), ev _ _ k3, ⟨by rw [e _ _ (by omega) (by omega)]; exact k4.1, fun J hJ => ev _ _ (k4.2 J hJ)⟩, ⟨by rw [e _ _ (by omega) (by omega)]; exact k5.1, k5.2.1, fun k hk => ev _ _ (k5.2.2 k hk)⟩, hs, k7.mono (e _ _ (by omega) (by omega)) (fun i => e _ _ (by omega) (by omega)), ⟨by rw [e _ _ (by omega) (by omega)]; exact k8.1, by rw [e _ _ (by omega) (by omega)]; exact k8.2⟩⟩
def sAdd (S : SSt) (a b c d : Int32) : SSt := (S.1 + 1, S.2.1, fun r k => if k = S.1 then (if r = 0 then a else if r = 1 then b else if r = 2 then c else d) else S.2.2 r k)
theorem sAdd_lt {S : SSt} {a b c d : Int32} {r k : Nat} (h : k < S.1) : (sAdd S a b c d).2.2 r k = S.2.2 r k := if_neg (by omega)
theorem sAdd_at {S : SSt} {a b c d : Int32} {r : Nat} : (sAdd S a b c d).2.2 r S.1 = (if r = 0 then a else if r = 1 then b else if r = 2 then c else d) := if_pos rfl
theorem lit24 : (24 : Int32) = nI 24 := by decide
theorem c_note {M : zM} {q : PPt} {V : AV} {I : Option AV} {D : Nat × (Nat → AV)} {S : SSt} {B : Nat × (Nat → Int32)} {F : Int32 × Int32} {a b c d : Int32} (h : CR M q V I D S B F) (hs : S.1 < 24) (hc : c = 0 ∨ c = 1) (hd : d = -1 ∨ (d ≠ -1 ∧ a = 0 ∧ b = 0)) :
    ∃ M1, gX4_note a b c d M = some (nI S.1, M1) ∧ CR M1 q V I D (sAdd S a b c d) B F ∧ (∀ x i, 98 ≤ x → M1.1 x i = M.1 x i) := by
  have h' := h
  obtain ⟨p, c1, c2, c3, c4, c5, c6, c7, c8⟩ := h
  unfold gX4_note
  have q24 : ∀ e : Option (Int32 × zM), zg (zok (nI S.1) 24) e = e := fun e => zg_true (zok_nI hs (by omega))
  have key : ∀ (x1 x2 x3 : Nat) (y1 y2 y3 : Int32), x1 ≠ 89 → x2 ≠ 89 → x3 ≠ 89 → (zI (zI (zI M x1 S.1 y1) x2 S.1 y2) x3 S.1 y3).1 89 0 = nI S.1 := fun x1 x2 x3 y1 y2 y3 e1 e2 e3 => by rw [zI_of (by omega), zI_of (by omega), zI_of (by omega)]; exact c6.1
  have key4 : ∀ (x1 x2 x3 x4 : Nat) (y1 y2 y3 y4 : Int32), x1 ≠ 89 → x2 ≠ 89 → x3 ≠ 89 → x4 ≠ 89 → (zI (zI (zI (zI M x1 S.1 y1) x2 S.1 y2) x3 S.1 y3) x4 S.1 y4).1 89 0 = nI S.1 := fun x1 x2 x3 x4 y1 y2 y3 y4 e1 e2 e3 e4 => by rw [zI_of (by omega), zI_of (by omega), zI_of (by omega), zI_of (by omega)]; exact c6.1
  rw [c6.1, if_neg (nI_pos (by omega)), lit24, if_pos ((nI_lt_iff (by omega) (by omega)).mpr hs), q24, zlet_eq, nI_cl (by omega), show (zI M 90 S.1 a).1 89 0 = nI S.1 by rw [zI_of (by omega)]; exact c6.1, q24, zlet_eq, nI_cl (by omega), show (zI (zI M 90 S.1 a) 91 S.1 b).1 89 0 = nI S.1 by rw [zI_of (by omega), zI_of (by omega)]; exact c6.1, q24, zlet_eq, nI_cl (by omega), key _ _ _ _ _ _ (by omega) (by omega) (by omega), q24, zlet_eq, nI_cl (by omega), key4 _ _ _ _ _ _ _ _ (by omega) (by omega) (by omega) (by omega), zlet_eq, zI_at, nI_1, nI_dec, nar_b hc]
  refine ⟨_, rfl, h'.si (fun x i z1 z2 => ?_) (fun _ _ => rfl) ⟨?_, ?_, fun k hk => ?_⟩, fun x i z => ?_⟩
  · rw [zI_of (by omega), zI_of (by omega), zI_of (by omega), zI_of (by omega), zI_of (by omega)]
  · exact zI_at
  · rw [zI_of (by omega), zI_of (by omega), zI_of (by omega), zI_of (by omega), zI_of (by omega)]; exact c6.2.1
  · have hk' : k < S.1 + 1 := hk
    by_cases e : k = S.1
    · subst e
      rw [sAdd_at]
      simp only [sAdd_at]
      rw [zI_of (by omega), zI_at]
      refine ⟨rfl, fun _ r hr => ?_, fun hne => ?_⟩
      · rcases (show r = 0 ∨ r = 1 ∨ r = 2 by omega) with rfl | rfl | rfl
        · rw [zI_of (by omega), zI_of (by omega), zI_of (by omega), zI_of (by omega), zI_at]; rfl
        · rw [zI_of (by omega), zI_of (by omega), zI_of (by omega), zI_at]; rfl
        · rw [zI_of (by omega), zI_of (by omega), zI_at]; rfl
      · rcases hd with e | ⟨_, e1, e2⟩
        · exact absurd e hne
        · rw [zI_of (by omega), zI_of (by omega), zI_of (by omega), zI_of (by omega), zI_at, e1]
          refine ⟨rfl, ?_⟩
          rw [zI_of (by omega), zI_of (by omega), zI_of (by omega), zI_at, e2]
    · have hk2 : k < S.1 := by omega
      have g : ∀ x, 90 ≤ x → x ≤ 93 → (zI (zI (zI (zI (zI M 90 S.1 a) 91 S.1 b) 92 S.1 c) 93 S.1 d) 89 0 (nI (S.1 + 1))).1 x k = M.1 x k := fun x z1 z2 => by rw [zI_of (by omega), zI_of (by omega), zI_of (by omega), zI_of (by omega), zI_of (by omega)]
      have o := c6.2.2 k hk2
      simp only [sAdd_lt hk2]
      refine ⟨by rw [g _ (by omega) (by omega)]; exact o.1, fun e r hr => by rw [g _ (by omega) (by omega)]; exact o.2.1 e r hr, fun e => by rw [g _ (by omega) (by omega), g _ (by omega) (by omega)]; exact o.2.2 e⟩
  · rw [zI_of (by omega), zI_of (by omega), zI_of (by omega), zI_of (by omega), zI_of (by omega)]
theorem c_full {M : zM} {q : PPt} {V : AV} {I : Option AV} {D : Nat × (Nat → AV)} {S : SSt} {B : Nat × (Nat → Int32)} {F : Int32 × Int32} {a b c d : Int32} (h : CR M q V I D S B F) (hs : S.1 = 24) : gX4_note a b c d M = some (-1, M) := by
  obtain ⟨p, c1, c2, c3, c4, c5, c6, c7, c8⟩ := h
  unfold gX4_note
  rw [c6.1, hs, if_neg (nI_pos (by omega)), if_neg (by decide)]
theorem k_see {M : zM} (h : Rel M) (x y z : Int32) (hz3 : z = 0 ∨ z = 1) : ∃ r M1 M2, gX9_see x y z M = some (r, M1) ∧ gX10_see x y z M1 = some (r, M2) ∧ Rel M2 := by
  have h' := h
  obtain ⟨q, V, I, D, S, B, F, hA, hC, hM⟩ := h
  have hT := hA.1.1.2.1
  have hs24 := hA.2.2.2.2.1.1
  unfold gX9_see
  have hout : ∀ (_ : x < 1 ∨ 60 < x ∨ isM q.2.1 y = 0), gX10_see x y z M = some (-1, zI M 98 0 0) := fun hc => by
    unfold gX10_see
    rw [zlet_eq, zcI_some (hM.z.2.1.thing y)]
    by_cases h1 : x < 1
    · rw [if_pos h1]
    · rw [if_neg h1]
      by_cases h2 : 60 < x
      · rw [if_pos h2]
      · rw [if_neg h2]
        have h3 : isM q.2.1 y = 0 := by rcases hc with e | e | e; exact absurd e h1; exact absurd e h2; exact e
        rw [if_pos h3]
  by_cases h1 : x < 1
  · rw [if_pos h1]; exact ⟨-1, M, _, rfl, hout (Or.inl h1), h'.z⟩
  · rw [if_neg h1]
    by_cases h2 : 60 < x
    · rw [if_pos h2]; exact ⟨-1, M, _, rfl, hout (Or.inr (Or.inl h2)), h'.z⟩
    · rw [if_neg h2, zcI_some (hC.thing y)]
      rcases isM_cases (n := q.2.1) (by omega) y with e | ⟨e, t, ht, rfl⟩
      · rw [e, if_pos rfl]; exact ⟨-1, M, _, rfl, hout (Or.inr (Or.inr e)), h'.z⟩
      · rw [e, if_neg (show ¬ (1 : Int32) = 0 by decide)]
        have hx : ∃ s, 1 ≤ s ∧ s ≤ 60 ∧ x = nI s := by
          obtain ⟨s, s1, s2⟩ := cnt_of (n := 60) (x := x) (lit := 60) (by decide) (by omega) (fun w => h1 (by rw [Int32.lt_iff_toInt_lt] at w ⊢; have : (0 : Int32).toInt = 0 := rfl; have : (1 : Int32).toInt = 1 := rfl; omega)) (Int32.not_lt.mp h2)
          refine ⟨s, ?_, s1, s2⟩
          rcases Nat.eq_zero_or_pos s with e | e
          · subst e; rw [s2] at h1; exact absurd (by decide) h1
          · exact e
        by_cases hs : S.1 = 24
        · rw [zcIM_some (c_full hC hs)]
          refine ⟨-1, M, zI M 98 0 0, rfl, ?_, h'.z⟩
          unfold gX10_see
          rw [zlet_eq, if_neg h1, if_neg h2, zcI_some (hM.z.2.1.thing _), e, if_neg (show ¬ (1 : Int32) = 0 by decide), hM.z.2.2.2.2.2.1.1, hs, if_pos (by decide)]
        · obtain ⟨M1, e1, hC1, fr⟩ := c_note (a := x) (b := nI t) (c := z) (d := -1) hC (by omega) hz3 (Or.inl rfl)
          rw [zcIM_some e1]
          have hM1 : MR M1 q V I D S B F := hM.mono (fun a i d => fr a i (by unfold dM at d; omega))
          have hz := hM1.z (y := 0)
          have h61 := hz.2.2.2.2.2.1.1
          have q24 : ∀ e : Option (Int32 × zM), zg (zok (nI S.1) 24) e = e := fun e => zg_true (zok_nI (show S.1 < 24 by omega) (by omega))
          refine ⟨nI S.1, M1, zI (zI (zI (zI (zI (zI M1 98 0 0) 137 S.1 x) 138 S.1 (nI t)) 139 S.1 z) 140 S.1 (-1)) 98 61 (nI (S.1 + 1)), rfl, ?_, q, V, I, D, sAdd S x (nI t) z (-1), B, F, ?_, ?_, ?_⟩
          · unfold gX10_see
            rw [zlet_eq, if_neg h1, if_neg h2, zcI_some (hz.2.1.thing _), e, if_neg (show ¬ (1 : Int32) = 0 by decide), h61, if_neg (by rw [lit24]; intro w; have := congrArg Int32.toInt w; rw [nI_toInt (by omega), nI_toInt (by omega)] at this; omega), q24, zlet_eq, nI_cl (by omega), show (zI (zI M1 98 0 0) 137 S.1 x).1 98 61 = nI S.1 by rw [zI_of (by omega)]; exact h61, q24, zlet_eq, nI_cl (by omega), show (zI (zI (zI M1 98 0 0) 137 S.1 x) 138 S.1 (nI t)).1 98 61 = nI S.1 by rw [zI_of (by omega), zI_of (by omega)]; exact h61, q24, zlet_eq, nI_cl (by omega), nar_b hz3, show (zI (zI (zI (zI M1 98 0 0) 137 S.1 x) 138 S.1 (nI t)) 139 S.1 z).1 98 61 = nI S.1 by rw [zI_of (by omega), zI_of (by omega), zI_of (by omega)]; exact h61, q24, zlet_eq, nI_cl (by omega), show (zI (zI (zI (zI (zI M1 98 0 0) 137 S.1 x) 138 S.1 (nI t)) 139 S.1 z) 140 S.1 (-1)).1 98 61 = nI S.1 by rw [zI_of (by omega), zI_of (by omega), zI_of (by omega), zI_of (by omega)]; exact h61, zlet_eq, zI_at, nI_1, nI_dec]
          · refine ⟨hA.1, hA.2.1, hA.2.2.1, hA.2.2.2.1, ⟨by show S.1 + 1 ≤ 24; omega, ?_, fun k hk => ?_⟩, hA.2.2.2.2.2⟩
            · rcases hA.2.2.2.2.1.2.1 with e | ⟨k, hk, e⟩
              · exact Or.inl e
              · exact Or.inr ⟨k, by show k ≤ S.1 + 1; omega, e⟩
            · by_cases e : k = S.1
              · subst e
                simp only [sAdd_at]
                exact Or.inl ⟨rfl, hx, ⟨t, ht, rfl⟩, hz3⟩
              · have hk' : k < S.1 + 1 := hk
                simp only [sAdd_lt (show k < S.1 by omega)]
                exact hA.2.2.2.2.1.2.2 k (by omega)
          · refine hC1.mono (fun a i d _ => ?_) (fun _ _ _ => rfl)
            have : a < 98 := by unfold dC at d; omega
            rw [zI_of (by omega), zI_of (by omega), zI_of (by omega), zI_of (by omega), zI_of (by omega), zI_of (by omega)]
          · refine hz.si (fun a i z1 z2 => ?_) ⟨zI_at, ?_, fun k hk => ?_⟩
            · rw [zI_of (by omega), zI_of (by omega), zI_of (by omega), zI_of (by omega), zI_of (by omega)]
            · rw [zI_of (by omega), zI_of (by omega), zI_of (by omega), zI_of (by omega), zI_of (by omega)]
              exact hz.2.2.2.2.2.1.2.1
            · have hk' : k < S.1 + 1 := hk
              by_cases e : k = S.1
              · subst e
                simp only [sAdd_at]
                rw [zI_of (by omega), zI_at]
                refine ⟨rfl, fun _ r hr => ?_⟩
                rcases (show r = 0 ∨ r = 1 ∨ r = 2 by omega) with rfl | rfl | rfl
                · rw [zI_of (by omega), zI_of (by omega), zI_of (by omega), zI_of (by omega), zI_at]; rfl
                · rw [zI_of (by omega), zI_of (by omega), zI_of (by omega), zI_at]; rfl
                · rw [zI_of (by omega), zI_of (by omega), zI_at]; rfl
              · have hk2 : k < S.1 := by omega
                have o := hz.2.2.2.2.2.1.2.2 k hk2
                simp only [sAdd_lt hk2]
                have g : ∀ a, 137 ≤ a → a ≤ 140 → (zI (zI (zI (zI (zI (zI M1 98 0 0) 137 S.1 x) 138 S.1 (nI t)) 139 S.1 z) 140 S.1 (-1)) 98 61 (nI (S.1 + 1))).1 a k = (zI M1 98 0 0).1 a k := fun a z1 z2 => by rw [zI_of (by omega), zI_of (by omega), zI_of (by omega), zI_of (by omega), zI_of (by omega)]
                exact ⟨by rw [g _ (by omega) (by omega)]; exact o.1, fun e r hr => by rw [g _ (by omega) (by omega)]; exact o.2 e r hr⟩
theorem nI_ofge {n : Nat} {x : Int32} (hn : n < 1000) (h0 : ¬ x < 0) (h1 : x < nI n) : ∃ j, j < n ∧ x = nI j := by
  have h1' : x.toInt < n := by rw [Int32.lt_iff_toInt_lt, nI_toInt (by omega)] at h1; exact h1
  rw [Int32.lt_iff_toInt_lt] at h0
  have z : (0 : Int32).toInt = 0 := rfl
  refine ⟨x.toInt.toNat, by omega, ?_⟩
  apply Int32.toInt_inj.mp
  rw [nI_toInt (by omega)]
  omega
theorem k_strike {M : zM} (h : Rel M) (x : Int32) : ∃ r M1 M2, gX9_strike x M = some (r, M1) ∧ gX10_strike x M1 = some (r, M2) ∧ Rel M2 := by
  have h' := h
  obtain ⟨q, V, I, D, S, B, F, hA, hC, hM⟩ := h
  have hs24 := hA.2.2.2.2.1.1
  have h0 : M.1 89 0 = nI S.1 := by obtain ⟨p, c1, c2, c3, c4, c5, c6, c7, c8⟩ := hC; exact c6.1
  unfold gX9_strike
  rw [h0]
  have hz0 := hM.z (y := 0)
  by_cases x0 : x < 0
  · rw [if_pos x0]
    refine ⟨-1, M, zI M 98 0 0, rfl, ?_, h'.z⟩
    unfold gX10_strike
    rw [zlet_eq, if_pos x0]
  · rw [if_neg x0]
    by_cases x1 : x < nI S.1
    · rw [if_pos x1]
      obtain ⟨j, hj, rfl⟩ := nI_ofge (by omega) x0 x1
      by_cases hs : S.1 = 24
      · rw [zcIM_some (c_full hC hs)]
        refine ⟨-1, M, zI M 98 0 0, rfl, ?_, h'.z⟩
        unfold gX10_strike
        rw [zlet_eq, if_neg x0, hz0.2.2.2.2.2.1.1, if_neg (nI_ge hj (by omega)), hs, if_pos (by decide)]
      · obtain ⟨M1, e1, hC1, fr⟩ := c_note (a := 0) (b := 0) (c := 0) (d := nI j) hC (by omega) (Or.inl rfl) (Or.inr ⟨nI_ne_m1 (by omega), rfl, rfl⟩)
        rw [zcIM_some e1]
        have hM1 : MR M1 q V I D S B F := hM.mono (fun a i d => fr a i (by unfold dM at d; omega))
        have hz := hM1.z (y := 0)
        have h61 := hz.2.2.2.2.2.1.1
        refine ⟨nI S.1, M1, zI (zI (zI M1 98 0 0) 140 S.1 (nI j)) 98 61 (nI (S.1 + 1)), rfl, ?_, q, V, I, D, sAdd S 0 0 0 (nI j), B, F, ?_, ?_, ?_⟩
        · unfold gX10_strike
          rw [zlet_eq, if_neg x0, h61, if_neg (nI_ge hj (by omega)), if_neg (by rw [lit24]; intro w; have := congrArg Int32.toInt w; rw [nI_toInt (by omega), nI_toInt (by omega)] at this; omega), zg_true (zok_nI (show S.1 < 24 by omega) (by omega)), zlet_eq, nI_cl (by omega), show (zI (zI M1 98 0 0) 140 S.1 (nI j)).1 98 61 = nI S.1 by rw [zI_of (by omega)]; exact h61, zlet_eq, zI_at, nI_1, nI_dec]
        · refine ⟨hA.1, hA.2.1, hA.2.2.1, hA.2.2.2.1, ⟨by show S.1 + 1 ≤ 24; omega, ?_, fun k hk => ?_⟩, hA.2.2.2.2.2⟩
          · rcases hA.2.2.2.2.1.2.1 with e | ⟨k, hk, e⟩
            · exact Or.inl e
            · exact Or.inr ⟨k, by show k ≤ S.1 + 1; omega, e⟩
          · by_cases e : k = S.1
            · subst e
              simp only [sAdd_at]
              exact Or.inr ⟨j, hj, rfl⟩
            · have hk' : k < S.1 + 1 := hk
              simp only [sAdd_lt (show k < S.1 by omega)]
              exact hA.2.2.2.2.1.2.2 k (by omega)
        · refine hC1.mono (fun a i d _ => ?_) (fun _ _ _ => rfl)
          have : a < 98 := by unfold dC at d; omega
          rw [zI_of (by omega), zI_of (by omega), zI_of (by omega)]
        · refine hz.si (fun a i z1 z2 => ?_) ⟨zI_at, ?_, fun k hk => ?_⟩
          · rw [zI_of (by omega), zI_of (by omega)]
          · rw [zI_of (by omega), zI_of (by omega)]
            exact hz.2.2.2.2.2.1.2.1
          · have hk' : k < S.1 + 1 := hk
            by_cases e : k = S.1
            · subst e
              simp only [sAdd_at]
              rw [zI_of (by omega), zI_at]
              exact ⟨rfl, fun e => absurd e (nI_ne_m1 (by omega))⟩
            · have hk2 : k < S.1 := by omega
              have o := hz.2.2.2.2.2.1.2.2 k hk2
              simp only [sAdd_lt hk2]
              have g : ∀ a, 137 ≤ a → a ≤ 140 → (zI (zI (zI M1 98 0 0) 140 S.1 (nI j)) 98 61 (nI (S.1 + 1))).1 a k = (zI M1 98 0 0).1 a k := fun a z1 z2 => by rw [zI_of (by omega), zI_of (by omega)]
              exact ⟨by rw [g _ (by omega) (by omega)]; exact o.1, fun e r hr => by rw [g _ (by omega) (by omega)]; exact o.2 e r hr⟩
    · rw [if_neg x1]
      refine ⟨-1, M, zI M 98 0 0, rfl, ?_, h'.z⟩
      unfold gX10_strike
      rw [zlet_eq, if_neg x0, hz0.2.2.2.2.2.1.1, if_pos (Int32.not_lt.mp x1)]
theorem k_known {M : zM} (h : Rel M) (x : Int32) : ∃ r M1 M2, gX9_known x M = some (r, M1) ∧ gX10_known x M1 = some (r, M2) ∧ Rel M2 := by
  have h' := h
  obtain ⟨q, V, I, D, S, B, F, hA, hC, hM⟩ := h
  have hs24 := hA.2.2.2.2.1.1
  have h0 : M.1 89 0 = nI S.1 := by obtain ⟨p, c1, c2, c3, c4, c5, c6, c7, c8⟩ := hC; exact c6.1
  have hz0 := hM.z (y := 0)
  unfold gX9_known
  rw [h0]
  by_cases x0 : x < -1
  · rw [if_pos x0]
    refine ⟨0, M, zI M 98 0 0, rfl, ?_, h'.z⟩
    unfold gX10_known
    rw [zlet_eq, if_pos x0]
  · rw [if_neg x0]
    by_cases x1 : x ≤ nI S.1
    · rw [if_pos x1, zlet_eq]
      have fr : ∀ a i, 98 ≤ a → (zI M 89 1 x).1 a i = M.1 a i := fun a i z => zI_of (by omega)
      have hM1 : MR (zI M 89 1 x) q V I D S B F := hM.mono (fun a i d => fr a i (by unfold dM at d; omega))
      have hz := hM1.z (y := 0)
      have hC1 : CR (zI M 89 1 x) q V I D (S.1, x, S.2.2) B F := by
        have h6 := hC
        obtain ⟨p, c1, c2, c3, c4, c5, c6, c7, c8⟩ := h6
        refine hC.si (fun a i z1 z2 => zI_of (by omega)) (fun _ _ => rfl) ⟨?_, zI_at, fun k hk => ?_⟩
        · rw [zI_of (by omega)]; exact c6.1
        · have o := c6.2.2 k hk
          refine ⟨by rw [zI_of (by omega)]; exact o.1, fun e r hr => by rw [zI_of (by omega)]; exact o.2.1 e r hr, fun e => ?_⟩
          rw [zI_of (by omega), zI_of (by omega)]; exact o.2.2 e
      refine ⟨1, zI M 89 1 x, zI (zI (zI M 89 1 x) 98 0 0) 98 62 x, rfl, ?_, q, V, I, D, (S.1, x, S.2.2), B, F, ?_, ?_, ?_⟩
      · unfold gX10_known
        rw [zlet_eq, if_neg x0, hz.2.2.2.2.2.1.1, if_pos x1, zlet_eq]
      · refine ⟨hA.1, hA.2.1, hA.2.2.1, hA.2.2.2.1, ⟨hA.2.2.2.2.1.1, ?_, hA.2.2.2.2.1.2.2⟩, hA.2.2.2.2.2⟩
        show x = -1 ∨ _
        by_cases xn : x < 0
        · left
          apply Int32.toInt_inj.mp
          rw [Int32.lt_iff_toInt_lt] at x0 xn
          have a1 : (-1 : Int32).toInt = -1 := by decide
          have a2 : (0 : Int32).toInt = 0 := rfl
          omega
        · right
          obtain ⟨k, hk, e⟩ := cnt_of (n := S.1) rfl (by omega) xn x1
          exact ⟨k, hk, e⟩
      · refine hC1.mono (fun a i d _ => ?_) (fun _ _ _ => rfl)
        have : a < 98 := by unfold dC at d; omega
        rw [zI_of (by omega), zI_of (by omega)]
      · refine hz.si (fun a i z1 z2 => zI_of (by omega)) ⟨?_, zI_at, fun k hk => ?_⟩
        · rw [zI_of (by omega)]; exact hz.2.2.2.2.2.1.1
        · have o := hz.2.2.2.2.2.1.2.2 k hk
          exact ⟨by rw [zI_of (by omega)]; exact o.1, fun e r hr => by rw [zI_of (by omega)]; exact o.2 e r hr⟩
    · rw [if_neg x1]
      refine ⟨0, M, zI M 98 0 0, rfl, ?_, h'.z⟩
      unfold gX10_known
      rw [zlet_eq, if_neg x0, hz0.2.2.2.2.2.1.1, if_neg x1]
