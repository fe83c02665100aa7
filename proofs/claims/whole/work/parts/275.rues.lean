def ruS (q : PPt) (S : SSt) (K m L : Nat) : Nat → Int32
  | 0 => 0
  | j + 1 => if agrS q S K m j L = 0 then ruS q S K m L j else ruS q S K m L j ||| ((1 : Int32) <<< ((nI j : Int32) &&& 31))
theorem ruS_s {q : PPt} {S : SSt} {K m L j : Nat} : ruS q S K m L (j + 1) = if agrS q S K m j L = 0 then ruS q S K m L j else ruS q S K m L j ||| ((1 : Int32) <<< ((nI j : Int32) &&& 31)) := rfl
theorem m_r139 {M : zM} {q : PPt} {V : AV} {I : Option AV} {D : Nat × (Nat → AV)} {S : SSt} {B : Nat × (Nat → Int32)} {F : Int32 × Int32} {K m L : Nat} (hC : CR M q V I D S B F) (hM : MR M q V I D S B F) (hq : pI q) (hs : sI q S) (hK : K ≤ S.1) (hK2 : S.2.1 = -1 ∧ K = S.1 ∨ S.2.1 = nI K) (hk : ∀ i, i < K → M.1 141 i = b2i (!knF (S.2.2 3) K K i)) (hm : m < q.1) (hL : L ≤ 60) :
    ∃ M', zfix zFu (gX10_rues_L139 (nI m) (nI L)) (0, 0, M) = some (ruS q S K m L 10, M') ∧ CR M' q V I D S B F ∧ MR M' q V I D S B F := by
  obtain ⟨s', N', ⟨Mj, rfl, j1, j2, j3⟩, e⟩ := zfix_inv (B := gX10_rues_L139 (nI m) (nI L)) (fun j s => ∃ Mj : zM, s = (ruS q S K m L j, nI j, Mj) ∧ CR Mj q V I D S B F ∧ MR Mj q V I D S B F ∧ ∀ i, i < K → Mj.1 141 i = b2i (!knF (S.2.2 3) K K i)) 10 (fun j hj s hs' => by
      obtain ⟨Mj, rfl, j1, j2, j3⟩ := hs'
      obtain ⟨M', f1, f2, f3, f4⟩ := m_fitsRue (L := L) j1 j2 hq hs hK hK2 j3 hm hj hL
      refine ⟨(ruS q S K m L (j + 1), nI (j + 1), M'), ⟨M', rfl, f2, f3, f4⟩, fun rc => ?_⟩
      unfold gX10_rues_L139
      dsimp only
      rw [nI_lit10, if_neg (nI_ge hj (by omega)), ← nI_lit10, zcIM_some f1, nI_1, zlet_eq, ruS_s]
      by_cases h0 : agrS q S K m j L = 0
      · rw [if_pos h0, if_pos h0, Int32.or_zero]
      · rw [if_neg h0, if_neg h0]) 10 0 zFu (0, 0, M) (by omega) (by unfold zFu; omega) ⟨M, by rw [nI_0]; rfl, hC, hM, hk⟩
  refine ⟨Mj, ?_, j1, j2⟩
  rw [e]
  unfold gX10_rues_L139
  dsimp only
  rw [nI_lit10, if_pos (nI_le (Nat.le_refl _) (by omega))]
theorem mxU_le {q : PPt} {S : SSt} {K : Nat} (h : sI q S) (hK : K ≤ S.1) : ∀ i, i ≤ K → mxU S K i ≤ 60 := by
  intro i
  induction i with
  | zero => intro _; exact Nat.zero_le _
  | succ i ih =>
    intro hi
    have ih := ih (by omega)
    show (if _ then _ else _) ≤ 60
    split
    · rename_i w
      exact Nat.max_le.mpr ⟨ih, (sAt_nI h (by omega) w.2).2⟩
    · exact ih
theorem m_r90 {M : zM} {q : PPt} {S : SSt} {K m : Nat} (hc : mSi M S) (hs : sI q S) (hK : K ≤ S.1) (hK2 : S.2.1 = -1 ∧ K = S.1 ∨ S.2.1 = nI K) (hk : ∀ i, i < K → M.1 141 i = b2i (!knF (S.2.2 3) K K i)) : zfix zFu (gX10_rues_L90 (nI m) M) (0, 0) = zfix zFu (gX10_rues_L139 (nI m) (nI (mxU S K K))) (0, 0, M) := by
  have h24 := hs.1
  refine zfix_run (fun i => (nI (mxU S K i), nI i)) K (by rw [← nI_0]; rfl) (by unfold zFu; omega) ?_ ?_
  · intro i hi rc
    have q24 : ∀ e : Option (Int32 × zM), zg (zok (nI i) 24) e = e := fun e => zg_true (zok_nI (show i < 24 by omega) (by omega))
    have hU := mxU_le hs hK i (by omega)
    unfold gX10_rues_L90
    dsimp only
    rw [zcI_some (m_size hc hs hK hK2), if_neg (nI_ge hi (by omega))]
    simp only [q24]
    rw [nI_cl (by omega), hk i hi, (hc.2.2 i (by omega)).1, nI_1]
    show _ = rc (nI (if _ then _ else _), _)
    cases hb : knF (S.2.2 3) K K i with
    | false => rw [if_neg (show ¬ b2i (!false) = 0 by decide), if_neg (fun w => absurd w.1 (by decide))]
    | true =>
      rw [if_pos (show b2i (!true) = 0 by decide)]
      by_cases h3 : S.2.2 3 i = -1
      · rw [if_pos h3, if_pos (show true = true ∧ S.2.2 3 i = -1 from ⟨rfl, h3⟩), zlet_eq, show M.1 137 i = S.2.2 0 i from (hc.2.2 i (by omega)).2 h3 0 (by omega), (sAt_nI hs (by omega) h3).1, nI_max (by omega) (by have := (sAt_nI hs (show i < S.1 by omega) h3).2; omega)]
      · rw [if_neg h3, if_neg (fun w => h3 w.2)]
  · intro rc
    unfold gX10_rues_L90
    dsimp only
    rw [zcI_some (m_size hc hs hK hK2), if_pos (nI_le (Nat.le_refl _) (by omega))]
theorem m_r19 {M : zM} {q : PPt} {V : AV} {I : Option AV} {D : Nat × (Nat → AV)} {S : SSt} {B : Nat × (Nat → Int32)} {F : Int32 × Int32} {K m : Nat} (hM : MR M q V I D S B F) (hs : sI q S) (hK : K ≤ S.1) (hK2 : S.2.1 = -1 ∧ K = S.1 ∨ S.2.1 = nI K) :
    ∃ M', zfix zFu (gX10_rues_L19 (nI m) 0) (0, M) = zfix zFu (gX10_rues_L90 (nI m) M') (0, 0) ∧ M'.2 = M.2 ∧ (∀ a i, a ≠ 141 → M'.1 a i = M.1 a i) ∧ ∀ i, i < K → M'.1 141 i = b2i (!knF (S.2.2 3) K K i) := by
  have h24 := hs.1
  have hso := hs.ok hK
  have ksz : ∀ {N : zM}, (∀ a i, a ≠ 141 → N.1 a i = M.1 a i) → gX10_knownMany N = some (nI K) := fun {N} h => m_size (M := N) (by
    have : MR N q V I D S B F := hM.mono (fun a i d => h a i (by unfold dM at d; omega))
    exact this.2.2.2.2.2.1) hs hK hK2
  have c140 : ∀ {N : zM}, (∀ a i, a ≠ 141 → N.1 a i = M.1 a i) → ∀ i, i < K → N.1 140 i = S.2.2 3 i := fun h i hi => by rw [h 140 i (by omega)]; exact (hM.2.2.2.2.2.1.2.2 i (by omega)).1
  obtain ⟨s', N', ⟨Mk, rfl, g1, g2, g3⟩, e⟩ := zfix_inv (B := gX10_rues_L19 (nI m) 0) (fun k s => ∃ Mk : zM, s = (nI k, Mk) ∧ Mk.2 = M.2 ∧ (∀ a i, a ≠ 141 → Mk.1 a i = M.1 a i) ∧ ∀ i, i < k → Mk.1 141 i = 0) K (fun k hk s hs' => by
      obtain ⟨Mk, rfl, g1, g2, g3⟩ := hs'
      refine ⟨(nI (k + 1), zI Mk 141 k 0), ⟨_, rfl, g1, fun a i z => by rw [zI_of (by omega), g2 a i z], fun i hi => ?_⟩, fun rc => ?_⟩
      · by_cases e : i = k
        · subst e; rw [zI_at]
        · rw [zI_of (by omega), g3 i (by omega)]
      · unfold gX10_rues_L19
        dsimp only
        rw [zcI_some (ksz g2), if_neg (nI_ge hk (by omega)), zg_true (zok_nI (show k < 24 by omega) (by omega)), zlet_eq, nI_cl (by omega), nI_1, nar_b (Or.inl rfl)]) K 0 zFu (0, M) (by omega) (by unfold zFu; omega) ⟨M, by rw [nI_0], rfl, fun _ _ _ => rfl, fun _ h => absurd h (by omega)⟩
  rw [e]
  unfold gX10_rues_L19
  dsimp only
  rw [zcI_some (ksz g2), if_pos (nI_le (Nat.le_refl _) (by omega)), zcI_some (ksz g2)]
  obtain ⟨s2, N2, ⟨Mj, rfl, j1, j2, j3⟩, e2⟩ := zfix_inv (B := gX10_rues_L47 (nI m) 0) (fun t s => ∃ Mj : zM, s = (nI (K - t) - 1, Mj) ∧ Mj.2 = M.2 ∧ (∀ a i, a ≠ 141 → Mj.1 a i = M.1 a i) ∧ ∀ i, i < K → Mj.1 141 i = b2i (!knF (S.2.2 3) K t i)) K (fun t ht s hs' => by
      obtain ⟨Mj, rfl, j1, j2, j3⟩ := hs'
      have hi : K - 1 - t < 24 := by omega
      have q24 : ∀ e : Option (Int32 × zM), zg (zok (nI (K - 1 - t)) 24) e = e := fun e => zg_true (zok_nI hi (by omega))
      have body : ∀ rc, gX10_rues_L47 (nI m) 0 rc (nI (K - t) - 1, Mj) = (if b2i (!knF (S.2.2 3) K t (K - 1 - t)) = 0 then (if S.2.2 3 (K - 1 - t) = -1 then rc (nI (K - (t + 1)) - 1, Mj) else zg (zok (S.2.2 3 (K - 1 - t)) 24) (rc (nI (K - (t + 1)) - 1, zI Mj 141 (S.2.2 3 (K - 1 - t)).toNatClampNeg 1))) else rc (nI (K - (t + 1)) - 1, Mj)) := fun rc => by
        unfold gX10_rues_L47
        dsimp only
        rw [nI_prev ht, if_neg (nI_pos (by omega))]
        simp only [q24]
        rw [nI_cl (by omega), j3 _ (by omega), c140 j2 _ (by omega), nar_b (Or.inr rfl), nI_last ht]
        rfl
      cases hb : knF (S.2.2 3) K t (K - 1 - t) with
      | false =>
        have e1 : knF (S.2.2 3) K (t + 1) = knF (S.2.2 3) K t := if_neg (fun w => by rw [hb] at w; exact absurd w.1 (by decide))
        refine ⟨(nI (K - (t + 1)) - 1, Mj), ⟨Mj, rfl, j1, j2, by rw [e1]; exact j3⟩, fun rc => ?_⟩
        rw [body, hb, if_neg (show ¬ b2i (!false) = 0 by decide)]
      | true =>
        rcases hso (K - 1 - t) (by omega) with e | ⟨j, hj, e⟩
        · have e1 : knF (S.2.2 3) K (t + 1) = knF (S.2.2 3) K t := if_neg (fun w => w.2 e)
          refine ⟨(nI (K - (t + 1)) - 1, Mj), ⟨Mj, rfl, j1, j2, by rw [e1]; exact j3⟩, fun rc => ?_⟩
          rw [body, hb, if_pos (show b2i (!true) = 0 by decide), if_pos e]
        · have e1 : ∀ i, i < 24 → knF (S.2.2 3) K (t + 1) i = if i = j then false else knF (S.2.2 3) K t i := fun i hi => by
            rw [knF_s, if_pos ⟨hb, by rw [e]; exact nI_ne_m1 (by omega)⟩, e]
            by_cases w : i = j
            · rw [if_pos w, if_pos (by rw [w])]
            · rw [if_neg w, if_neg]
              intro w'
              have := congrArg Int32.toInt w'
              rw [nI_toInt (by omega), nI_toInt (by omega)] at this
              omega
          refine ⟨(nI (K - (t + 1)) - 1, zI Mj 141 j 1), ⟨_, rfl, j1, fun a i z => by rw [zI_of (by omega), j2 a i z], fun i hi => ?_⟩, fun rc => ?_⟩
          · rw [e1 i (by omega)]
            by_cases w : i = j
            · rw [w, zI_at, if_pos rfl]; rfl
            · rw [zI_of (by omega), if_neg w]; exact j3 i hi
          · rw [body, hb, if_pos (show b2i (!true) = 0 by decide), e, if_neg (nI_ne_m1 (by omega)), zg_true (zok_nI (show j < 24 by omega) (by omega)), nI_cl (by omega)]) K 0 zFu (nI K - 1, Mk) (by omega) (by unfold zFu; omega) ⟨Mk, by rw [Nat.sub_zero], g1, g2, fun i hi => by rw [g3 i hi]; show 0 = b2i (!decide (i < K)); rw [decide_eq_true hi]; rfl⟩
  rw [e2]
  unfold gX10_rues_L47
  dsimp only
  rw [Nat.sub_self, if_pos (by decide)]
  exact ⟨Mj, rfl, j1, j2, j3⟩
theorem k_rues {M : zM} (h : Rel M) (x : Int32) : ∃ r M1 M2, gX9_rues x M = some (r, M1) ∧ gX10_rues x M1 = some (r, M2) ∧ Rel M2 := by
  have h' := h
  obtain ⟨q, V, I, D, S, B, F, hA, hC, hM⟩ := h
  have hq := hA.1
  have hs := hA.2.2.2.2.1
  unfold gX9_rues
  rw [zcI_some (hC.man x)]
  rcases isM_cases (n := q.1) (by have := hq.1.1; omega) x with e | ⟨e, m, hm, rfl⟩
  · rw [e, if_pos rfl]
    refine ⟨-1, M, zI M 98 0 0, rfl, ?_, h'.z⟩
    unfold gX10_rues
    rw [zlet_eq, zcI_some (hM.z.2.1.man x), e, if_pos rfl]
  · rw [e, if_neg (show ¬ (1 : Int32) = 0 by decide)]
    have hC0 := hC
    obtain ⟨p, c1, c2, c3, c4, c5, c6, c7, c8⟩ := hC0
    obtain ⟨K, hK, hk1, hK2⟩ := c_size c6 hs
    obtain ⟨M4, b1, b2, b3, b4⟩ := c_mark c6 hs hK hk1
    have hL := mxD_le hs hK K (Nat.le_refl _)
    have hC4 : CR M4 q V I D S B F := hC.mono (fun a i d _ => b3 a i (by unfold dC at d; omega)) (fun a _ _ => by rw [b2])
    have hM4 : MR M4 q V I D S B F := hM.mono (fun a i d => b3 a i (by unfold dM at d; omega))
    rw [zcIM_some b1]
    obtain ⟨s', N', ⟨Mj, rfl, j1, j2, j3⟩, e1⟩ := zfix_inv (B := gX9_rues_L23 (nI m) (nI (mxD S K K))) (fun j s => ∃ Mj : zM, s = (ruS q S K m (mxD S K K) j, nI j, Mj) ∧ CR Mj q V I D S B F ∧ MR Mj q V I D S B F ∧ ∀ i, i < 24 → Mj.1 94 i = b2i (knF (S.2.2 3) K K i)) 10 (fun j hj s hs' => by
        obtain ⟨Mj, rfl, j1, j2, j3⟩ := hs'
        obtain ⟨M', f1, f2, f3, f4⟩ := c_agrees (L := mxD S K K) j1 j2 hq hs hK j3 hm hj hL
        refine ⟨(ruS q S K m (mxD S K K) (j + 1), nI (j + 1), M'), ⟨M', rfl, f2, f3, f4⟩, fun rc => ?_⟩
        unfold gX9_rues_L23
        dsimp only
        rw [nI_lit10, if_neg (nI_ge hj (by omega)), ← nI_lit10, zcIM_some f1, nI_1, zlet_eq, ruS_s]
        by_cases h0 : agrS q S K m j (mxD S K K) = 0
        · rw [if_pos h0, if_pos h0]
        · rw [if_neg h0, if_neg h0]) 10 0 zFu (0, 0, M4) (by omega) (by unfold zFu; omega) ⟨M4, by rw [nI_0]; rfl, hC4, hM4, b4⟩
    have hz := j2.z (y := 0)
    obtain ⟨M5, f1, f2, f3, f4⟩ := m_r19 (m := m) hz hs hK hK2
    have hM5 : MR M5 q V I D S B F := hz.mono (fun a i d => f3 a i (by unfold dM at d; omega))
    have hC5 : CR M5 q V I D S B F := j1.z.hi (fun a i z => f3 a i (by omega)) (by rw [f2])
    obtain ⟨M6, d1, d2, d3⟩ := m_r139 (L := mxU S K K) hC5 hM5 hq hs hK hK2 f4 hm (mxU_le hs hK K (Nat.le_refl _))
    refine ⟨ruS q S K m (mxD S K K) 10, Mj, M6, ?_, ?_, q, V, I, D, S, B, F, hA, d2, d3⟩
    · rw [e1]
      unfold gX9_rues_L23
      dsimp only
      rw [nI_lit10, if_pos (nI_le (Nat.le_refl _) (by omega))]
    · unfold gX10_rues
      rw [zlet_eq, zcI_some (hz.2.1.man _), e, if_neg (show ¬ (1 : Int32) = 0 by decide), f1, m_r90 hM5.2.2.2.2.2.1 hs hK hK2 f4, d1, mx_eq (hs.ok hK) (by have := hs.1; omega)]
