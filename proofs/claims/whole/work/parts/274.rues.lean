/-- entry i is known, of what was seen after s STEPS, and isn't so in W -/
def badF (S : SSt) (K : Nat) (W : AV) (s : Nat) (i : Nat) : Bool := knF (S.2.2 3) K K i && (S.2.2 3 i == -1) && (S.2.2 0 i == nI s) && !((if W 8 (S.2.2 1 i).toNatClampNeg = 2 then (1 : Int32) else 0) == S.2.2 2 i)
def fitS (S : SSt) (K : Nat) (W : AV) (s : Nat) : Int32 := match ffst (badF S K W s) K with
  | some _ => 0
  | none => 1
theorem badF_f {S : SSt} {K : Nat} {W : AV} {s i : Nat} (h : knF (S.2.2 3) K K i = false ∨ S.2.2 3 i ≠ -1 ∨ S.2.2 0 i ≠ nI s ∨ (if W 8 (S.2.2 1 i).toNatClampNeg = 2 then (1 : Int32) else 0) = S.2.2 2 i) : badF S K W s i = false := by
  unfold badF
  rcases h with h | h | h | h
  · rw [h]; rfl
  · rw [beq_eq_false_iff_ne.mpr h]; simp
  · rw [beq_eq_false_iff_ne.mpr h]; simp
  · rw [h]; simp
theorem badF_t {S : SSt} {K : Nat} {W : AV} {s i : Nat} (h : badF S K W s i = true) : knF (S.2.2 3) K K i = true ∧ S.2.2 3 i = -1 ∧ S.2.2 0 i = nI s ∧ (if W 8 (S.2.2 1 i).toNatClampNeg = 2 then (1 : Int32) else 0) ≠ S.2.2 2 i := by
  unfold badF at h
  rw [Bool.and_eq_true, Bool.and_eq_true, Bool.and_eq_true] at h
  obtain ⟨⟨⟨h1, h2⟩, h3⟩, h4⟩ := h
  exact ⟨h1, by simpa using h2, by simpa using h3, by simpa using h4⟩
theorem badF_c {S : SSt} {K : Nat} {W : AV} {s i : Nat} (h : badF S K W s i = false) (h1 : knF (S.2.2 3) K K i = true) (h2 : S.2.2 3 i = -1) (h3 : S.2.2 0 i = nI s) : (if W 8 (S.2.2 1 i).toNatClampNeg = 2 then (1 : Int32) else 0) = S.2.2 2 i := by
  unfold badF at h
  rw [h1, h2, h3] at h
  simpa using h
/-- the class's fits -/
theorem c_fits {M : zM} {p : Nat} {q : PPt} {S : SSt} {K s : Nat} {W : AV} (hq : pI q) (hc : cSi M S) (hs : sI q S) (hK : K ≤ S.1) (hk : ∀ i, i < 24 → M.1 94 i = b2i (knF (S.2.2 3) K K i)) (hW : cT M p q W) (hs1 : 1 ≤ s) (hs2 : s ≤ 60) : gX4_fits (nI s) 73 8 M = some (fitS S K W s) := by
  have h24 := hs.1
  have hT := hq.1.2.1
  unfold gX4_fits fitS
  rw [← ffst_ext (P := badF S K W s) hK (fun k k1 _ => badF_f (Or.inl (knF_out _ _ k1)))]
  rw [zfix_find (B := gX4_fits_L2 73 8 (nI s) M) (fun k => nI k) (badF S K W s) (fun k => some 0) (some 1) S.1 nI_0.symm (by unfold zFu; omega) ?_ ?_ ?_]
  · cases ffst (badF S K W s) S.1 <;> rfl
  · intro i hi hb rc
    have q24 : ∀ e : Option Int32, zg (zok (nI i) 24) e = e := fun e => zg_true (zok_nI (show i < 24 by omega) (by omega))
    unfold gX4_fits_L2
    rw [hc.1, if_neg (nI_ge hi (by omega)), lit24, if_neg (nI_ge (by omega) (by omega))]
    simp only [q24]
    rw [nI_cl (by omega), hk i (by omega), nI_1]
    cases hkn : knF (S.2.2 3) K K i with
    | false => rw [if_pos (show b2i false = 0 from rfl)]
    | true =>
      rw [if_neg (show ¬ b2i true = 0 by decide)]
      by_cases h3 : S.2.2 3 i = -1
      · have o := (hc.2.2 i hi).2.1 h3
        rw [show M.1 90 i = S.2.2 0 i from o 0 (by omega), show M.1 91 i = S.2.2 1 i from o 1 (by omega)]
        by_cases h0 : S.2.2 0 i = nI s
        · rw [if_pos h0]
          rcases hs.2.2 i hi with ⟨_, _, ⟨t, ht, e1⟩, _⟩ | ⟨j, _, e⟩
          · have hv := badF_c hb hkn h3 h0
            rw [e1, nI_cl (by omega)] at hv
            rw [e1, if_neg (nI_pos (by omega)), show Int32.ofNat 8 = nI 8 from rfl, if_neg (nI_ge (by omega) (by omega)), zg_true (zok_nI (show t < 8 by omega) (by omega)), nI_cl (by omega), show M.1 73 t = W 8 t from hW.2.2.tt (c := 8) (by omega) (by omega) ht]
            unfold gX4_fits_J72
            rw [q24, q24, nI_cl (by omega), show M.1 92 i = S.2.2 2 i from o 2 (by omega), nI_1]
            by_cases hw : W 8 t = 2
            · rw [if_pos hw] at hv; rw [if_pos hw, if_pos hv]
            · rw [if_neg hw] at hv; rw [if_neg hw, if_pos hv]
          · rw [e] at h3; exact absurd h3 (nI_ne_m1 (by omega))
        · rw [if_neg h0]
      · rw [((hc.2.2 i hi).2.2 h3).1, if_neg]
        rw [← nI_0]
        intro w
        have := congrArg Int32.toInt w
        rw [nI_toInt (by omega), nI_toInt (by omega)] at this
        omega
  · intro i hi hb rc
    obtain ⟨b1, b2, b3, b4⟩ := badF_t hb
    have q24 : ∀ e : Option Int32, zg (zok (nI i) 24) e = e := fun e => zg_true (zok_nI (show i < 24 by omega) (by omega))
    unfold gX4_fits_L2
    rw [hc.1, if_neg (nI_ge hi (by omega)), lit24, if_neg (nI_ge (by omega) (by omega))]
    simp only [q24]
    have o := (hc.2.2 i hi).2.1 b2
    rcases hs.2.2 i hi with ⟨_, _, ⟨t, ht, e1⟩, _⟩ | ⟨j, _, e⟩
    · rw [e1, nI_cl (by omega)] at b4
      rw [nI_cl (by omega), hk i (by omega), b1, if_neg (show ¬ b2i true = 0 by decide), show M.1 90 i = S.2.2 0 i from o 0 (by omega), show M.1 91 i = S.2.2 1 i from o 1 (by omega), if_pos b3, e1, if_neg (nI_pos (by omega)), show Int32.ofNat 8 = nI 8 from rfl, if_neg (nI_ge (by omega) (by omega)), zg_true (zok_nI (show t < 8 by omega) (by omega)), nI_cl (by omega), show M.1 73 t = W 8 t from hW.2.2.tt (c := 8) (by omega) (by omega) ht]
      unfold gX4_fits_J72
      rw [q24, q24, nI_cl (by omega), show M.1 92 i = S.2.2 2 i from o 2 (by omega)]
      by_cases hw : W 8 t = 2
      · rw [if_pos hw] at b4; rw [if_pos hw, if_neg b4]
      · rw [if_neg hw] at b4; rw [if_neg hw, if_neg b4]
    · rw [e] at b2; exact absurd b2 (nI_ne_m1 (by omega))
  · intro rc
    unfold gX4_fits_L2
    rw [hc.1, if_pos (nI_le (Nat.le_refl _) (by omega))]
/-- the reference's isSo -/
theorem m_isSo {M : zM} {q : PPt} {S : SSt} {K s : Nat} {W : AV} (hq : pI q) (hc : mSi M S) (hs : sI q S) (hK : K ≤ S.1) (hkn : gX10_knownMany M = some (nI K)) (hk : ∀ i, i < K → M.1 141 i = b2i (!knF (S.2.2 3) K K i)) (hW : mT M q W) : gX10_isSo (nI s) M = some (fitS S K W s) := by
  have h24 := hs.1
  have hT := hq.1.2.1
  unfold gX10_isSo fitS
  rw [zfix_find (B := gX10_isSo_L2 (nI s) M) (fun k => nI k) (badF S K W s) (fun k => some 0) (some 1) K nI_0.symm (by unfold zFu; omega) ?_ ?_ ?_]
  · cases ffst (badF S K W s) K <;> rfl
  · intro i hi hb rc
    have q24 : ∀ e : Option Int32, zg (zok (nI i) 24) e = e := fun e => zg_true (zok_nI (show i < 24 by omega) (by omega))
    unfold gX10_isSo_L2
    rw [zcI_some hkn, if_neg (nI_ge hi (by omega))]
    simp only [q24]
    rw [nI_cl (by omega), hk i hi, nI_1]
    cases hkn : knF (S.2.2 3) K K i with
    | false => rw [if_neg (show ¬ b2i (!false) = 0 by decide)]
    | true =>
      rw [if_pos (show b2i (!true) = 0 by decide), (hc.2.2 i (by omega)).1]
      by_cases h3 : S.2.2 3 i = -1
      · have o := (hc.2.2 i (by omega)).2 h3
        rw [if_pos h3, show M.1 137 i = S.2.2 0 i from o 0 (by omega), show M.1 138 i = S.2.2 1 i from o 1 (by omega)]
        by_cases h0 : S.2.2 0 i = nI s
        · rw [if_pos h0]
          rcases hs.2.2 i (by omega) with ⟨_, _, ⟨t, ht, e1⟩, _⟩ | ⟨j, _, e⟩
          · have hv := badF_c hb hkn h3 h0
            rw [e1, nI_cl (by omega)] at hv
            rw [e1, nI_lit8, nI_add, zg_true (zok_nI (show 8 + t < 184 by omega) (by omega)), nI_cl (by omega), show M.1 130 (8 + t) = W 8 t from hW.2.1.tt (c := 8) (by omega) (by omega) ht]
            unfold gX10_isSo_J65
            rw [q24, q24, nI_cl (by omega), show M.1 139 i = S.2.2 2 i from o 2 (by omega), nI_1]
            by_cases hw : W 8 t = 2
            · rw [if_pos hw] at hv; rw [if_pos hw, if_pos hv]
            · rw [if_neg hw] at hv; rw [if_neg hw, if_pos hv]
          · rw [e] at h3; exact absurd h3 (nI_ne_m1 (by omega))
        · rw [if_neg h0]
      · rw [if_neg h3]
  · intro i hi hb rc
    obtain ⟨b1, b2, b3, b4⟩ := badF_t hb
    have q24 : ∀ e : Option Int32, zg (zok (nI i) 24) e = e := fun e => zg_true (zok_nI (show i < 24 by omega) (by omega))
    unfold gX10_isSo_L2
    rw [zcI_some hkn, if_neg (nI_ge hi (by omega))]
    simp only [q24]
    have o := (hc.2.2 i (by omega)).2 b2
    rcases hs.2.2 i (by omega) with ⟨_, _, ⟨t, ht, e1⟩, _⟩ | ⟨j, _, e⟩
    · rw [e1, nI_cl (by omega)] at b4
      rw [nI_cl (by omega), hk i hi, b1, if_pos (show b2i (!true) = 0 by decide), (hc.2.2 i (by omega)).1, if_pos b2, show M.1 137 i = S.2.2 0 i from o 0 (by omega), show M.1 138 i = S.2.2 1 i from o 1 (by omega), if_pos b3, e1, nI_lit8, nI_add, zg_true (zok_nI (show 8 + t < 184 by omega) (by omega)), nI_cl (by omega), show M.1 130 (8 + t) = W 8 t from hW.2.1.tt (c := 8) (by omega) (by omega) ht]
      unfold gX10_isSo_J65
      rw [q24, q24, nI_cl (by omega), show M.1 139 i = S.2.2 2 i from o 2 (by omega)]
      by_cases hw : W 8 t = 2
      · rw [if_pos hw] at b4; rw [if_pos hw, if_neg b4]
      · rw [if_neg hw] at b4; rw [if_neg hw, if_neg b4]
    · rw [e] at b2; exact absurd b2 (nI_ne_m1 (by omega))
  · intro rc
    unfold gX10_isSo_L2
    rw [zcI_some hkn, if_pos (nI_le (Nat.le_refl _) (by omega))]
/-- the world as the TEXT has it -/
theorem nI_mul' (a b : Nat) : nI a * nI b = nI (a * b) := by unfold nI; rw [Int32.ofNat_mul]
theorem sBegin_1 {n T : Nat} {P : AV} {k : Nat} (h : k < n) : sBegin n T P 1 k = nI k := by unfold sBegin; rw [if_pos (vdN (by omega) (by omega) h)]; rfl
theorem sBegin_2 {n T : Nat} {P : AV} {k : Nat} (h : k < n) : sBegin n T P 2 k = P 3 k := by unfold sBegin; rw [if_pos (vdN (by omega) (by omega) h)]; rfl
theorem sBegin_4 {n T : Nat} {P : AV} {k : Nat} (h : k < n) : sBegin n T P 4 k = 0 := by unfold sBegin; rw [if_pos (vdN (by omega) (by omega) h)]; rfl
theorem sBegin_5 {n T : Nat} {P : AV} {k : Nat} (h : k < n) : sBegin n T P 5 k = -2 := by unfold sBegin; rw [if_pos (vdN (by omega) (by omega) h)]; rfl
theorem sBegin_7 {n T : Nat} {P : AV} {k : Nat} (h : k < n) : sBegin n T P 7 k = 0 := by unfold sBegin; rw [if_pos (vdN (by omega) (by omega) h)]; rfl
theorem sBegin_wI {q : PPt} (hq : pI q) : wI q (sBegin q.1 q.2.1 q.2.2.2.1) := by
  have hn := hq.1.1
  refine ⟨⟨?_, ?_, ?_⟩, ?_, ?_, ?_⟩
  · intro k hk
    exact ⟨k, hk, sBegin_1 hk⟩
  · intro m hm h
    rw [sBegin_4 hm] at h
    exact absurd h (by decide)
  · intro m hm
    rw [sBegin_2 hm]
    exact hq.2.2.2.2.2 m hm
  · intro m hm
    rw [sBegin_7 hm]
    exact Or.inl rfl
  · intro i j hi hj e
    rw [sBegin_1 hi, sBegin_1 hj] at e
    have := congrArg Int32.toInt e
    rw [nI_toInt (by omega), nI_toInt (by omega)] at this
    omega
  · intro m hm
    rw [sBegin_5 hm]
    exact Or.inr rfl
def sRueV (q : PPt) (m j : Nat) : AV := vset (sBegin q.1 q.2.1 q.2.2.2.1) 2 m (nI (10 * j))
theorem sRueV_wI {q : PPt} {m j : Nat} (hq : pI q) (hj : j < 10) : wI q (sRueV q m j) := by
  have h := sBegin_wI hq
  refine ⟨⟨?_, ?_, ?_⟩, ?_, ?_, ?_⟩
  · have := h.1.1; unfold vRk sRueV at *; rw [vset_row (by omega)]; exact this
  · have := h.1.2.1; unfold vIn sRueV at *; rw [vset_row (by omega), vset_row (by omega), vset_row (by omega)]; exact this
  · intro k hk
    unfold sRueV
    by_cases e : k = m
    · rw [e, vset_at]; exact ⟨10 * j, by omega, rfl⟩
    · rw [vset_ne (by omega)]; exact h.1.2.2 k hk
  · have := h.2.1; unfold vHb sRueV at *; rw [vset_row (by omega)]; exact this
  · have := h.2.2.1; unfold vPm sRueV at *; rw [vset_row (by omega)]; exact this
  · have := h.2.2.2; unfold vGz sRueV at *; rw [vset_row (by omega), vset_row (by omega)]; exact this
/-- some STEP doesn't fit -/
def misF (q : PPt) (S : SSt) (K m j k : Nat) : Bool := fitS S K (qRun q 0 (sRueV q m j) (k + 1)) (k + 1) == 0
def agrS (q : PPt) (S : SSt) (K m j L : Nat) : Int32 := match ffst (misF q S K m j) L with
  | some _ => 0
  | none => 1
theorem c_agrees {M : zM} {q : PPt} {V : AV} {I : Option AV} {D : Nat × (Nat → AV)} {S : SSt} {B : Nat × (Nat → Int32)} {F : Int32 × Int32} {K m j L : Nat} (hC : CR M q V I D S B F) (hM : MR M q V I D S B F) (hq : pI q) (hs : sI q S) (hK : K ≤ S.1) (hk : ∀ i, i < 24 → M.1 94 i = b2i (knF (S.2.2 3) K K i)) (hm : m < q.1) (hj : j < 10) (hL : L ≤ 60) :
    ∃ M', gX9_agrees (nI m) (10 * nI j) (nI L) M = some (agrS q S K m j L, M') ∧ CR M' q V I D S B F ∧ MR M' q V I D S B F ∧ ∀ i, i < 24 → M'.1 94 i = b2i (knF (S.2.2 3) K K i) := by
  have hn := hq.1.1
  have hC0 := hC
  obtain ⟨p, c1, c2, c3, c4, c5, c6, c7, c8⟩ := hC0
  have hp := isPl_lt c2.1.1
  unfold gX9_agrees
  obtain ⟨M3, b1, b2, b3, b4, b5, b6⟩ := s_begin (w := 65) (Or.inr (Or.inl rfl)) c2.1
  rw [zgP_some c1.1 c2.1.1, zcV_some b1, zg_true (zok_nI (show m < 6 by omega) (by omega)), zlet_eq, nI_cl (by omega), show (10 : Int32) * nI j = nI (10 * j) from by rw [nI_lit10]; exact nI_mul' 10 j]
  have fr : ∀ a i, ¬ (65 ≤ a ∧ a ≤ 74) → (zI M3 67 m (nI (10 * j))).1 a i = M.1 a i := fun a i z => by rw [zI_of (by omega), b2 a (by omega)]
  have hC4 : CR (zI M3 67 m (nI (10 * j))) q V I D S B F := hC.mono (fun a i d _ => fr a i (by unfold dC at d; omega)) (fun a z _ => by
    show M3.2.2 a = _
    rw [b4]; funext i; exact zF_of (by omega))
  have hM4 : MR (zI M3 67 m (nI (10 * j))) q V I D S B F := hM.mono (fun a i d => fr a i (by unfold dM at d; omega))
  have hT4 : cT (zI M3 67 m (nI (10 * j))) p q (sRueV q m j) := by
    refine ⟨by show M3.2.2 65 0 = _; rw [b4]; exact zF_at, c2.mono (fun a i z1 z2 => fr a i (by omega)), ?_⟩
    have : cV M3 q 65 (sBegin q.1 q.2.1 q.2.2.2.1) := by unfold cV; rw [b5, c2.2.1]
    exact this.put (c := 2) (vdN (by omega) (by omega) hm)
  have fit : ∀ {N : zM} {W : AV} {s : Nat}, FrW 65 p (zI M3 67 m (nI (10 * j))) N → cT N p q W → 1 ≤ s → s ≤ 60 → gX4_fits (nI s) 73 8 N = some (fitS S K W s) := fun {N W s} hf hW h1 h2 => c_fits hq (by
      have : CR N q V I D S B F := hC4.fr65 hf
      obtain ⟨_, _, _, _, _, _, c6, _⟩ := this
      exact c6) hs hK (fun i hi => by rw [hf.1 94 i (by omega), fr 94 i (by omega)]; exact hk i hi) hW h1 h2
  obtain ⟨r1, e1, hr1⟩ := zfix_seek (B := gX9_agrees_L24 (nI L)) (s0 := (1, zI M3 67 m (nI (10 * j)))) (fun k s => ∃ Mk : zM, s = (nI (k + 1), Mk) ∧ FrW 65 p (zI M3 67 m (nI (10 * j))) Mk ∧ cT Mk p q (qRun q 0 (sRueV q m j) k)) (misF q S K m j) (fun k r => ∃ M', r = some (0, M') ∧ FrW 65 p (zI M3 67 m (nI (10 * j))) M') (fun r => ∃ M', r = some (1, M') ∧ FrW 65 p (zI M3 67 m (nI (10 * j))) M') L ⟨_, rfl, FrW.rf, hT4⟩ (by unfold zFu; omega) (fun k hk hp s hs' => by
      obtain ⟨Mk, rfl, g1, g2⟩ := hs'
      obtain ⟨M', k1, k2, k3, k4⟩ := g2.step (wy := 0) hq (qRun_wI hq (sRueV_wI hq hj) k)
      refine ⟨(nI (k + 1 + 1), M'), ⟨M', rfl, g1.tr k2, k3⟩, fun rc => ?_⟩
      unfold gX9_agrees_L24
      dsimp only
      have hne : ¬ fitS S K (qRun q 0 (sRueV q m j) (k + 1)) (k + 1) = 0 := by unfold misF at hp; simpa using hp
      rw [if_neg (by rw [nI_lt_iff (by omega) (by omega)]; omega), zcV_some k1, zcI_some (fit (W := qRun q 0 (sRueV q m j) (k + 1)) (g1.tr k2) k3 (by omega) (by omega)), if_neg hne, nI_1]) (fun k hk hp s hs' => by
      obtain ⟨Mk, rfl, g1, g2⟩ := hs'
      obtain ⟨M', k1, k2, k3, k4⟩ := g2.step (wy := 0) hq (qRun_wI hq (sRueV_wI hq hj) k)
      refine ⟨some (0, M'), ⟨M', rfl, g1.tr k2⟩, fun rc => ?_⟩
      unfold gX9_agrees_L24
      dsimp only
      have hne : fitS S K (qRun q 0 (sRueV q m j) (k + 1)) (k + 1) = 0 := by unfold misF at hp; simpa using hp
      rw [if_neg (by rw [nI_lt_iff (by omega) (by omega)]; omega), zcV_some k1, zcI_some (fit (W := qRun q 0 (sRueV q m j) (k + 1)) (g1.tr k2) k3 (by omega) (by omega)), if_pos hne]) (fun s hs' => by
      obtain ⟨Mk, rfl, g1, g2⟩ := hs'
      refine ⟨some (1, Mk), ⟨Mk, rfl, g1⟩, fun rc => ?_⟩
      unfold gX9_agrees_L24
      dsimp only
      rw [if_pos (by rw [nI_lt_iff (by omega) (by omega)]; omega)])
  have hfin : ∃ M', zfix zFu (gX9_agrees_L24 (nI L)) (1, zI M3 67 m (nI (10 * j))) = some (agrS q S K m j L, M') ∧ FrW 65 p (zI M3 67 m (nI (10 * j))) M' := by
    rw [e1]
    unfold agrS
    cases hf : ffst (misF q S K m j) L with
    | some k => rw [hf] at hr1; exact hr1
    | none => rw [hf] at hr1; exact hr1
  obtain ⟨M', e', f'⟩ := hfin
  exact ⟨M', e', hC4.fr65 f', hM4.fr65 f', fun i hi => by rw [f'.1 94 i (by omega), fr 94 i (by omega)]; exact hk i hi⟩
theorem m_fitsRue {M : zM} {q : PPt} {V : AV} {I : Option AV} {D : Nat × (Nat → AV)} {S : SSt} {B : Nat × (Nat → Int32)} {F : Int32 × Int32} {K m j L : Nat} (hC : CR M q V I D S B F) (hM : MR M q V I D S B F) (hq : pI q) (hs : sI q S) (hK : K ≤ S.1) (hK2 : S.2.1 = -1 ∧ K = S.1 ∨ S.2.1 = nI K) (hk : ∀ i, i < K → M.1 141 i = b2i (!knF (S.2.2 3) K K i)) (hm : m < q.1) (hj : j < 10) (hL : L ≤ 60) :
    ∃ M', gX10_fitsRue (nI m) (10 * nI j) (nI L) M = some (agrS q S K m j L, M') ∧ CR M' q V I D S B F ∧ MR M' q V I D S B F ∧ ∀ i, i < K → M'.1 141 i = b2i (!knF (S.2.2 3) K K i) := by
  have hn := hq.1.1
  unfold gX10_fitsRue
  obtain ⟨M3, b1, b2, b3, b4⟩ := r_starts (f := 1) hM.2.1.1 (by omega) hM.1.1
  rw [zcV_some (show gX10_starts 1 M = some M3 from b1), nI_lit6, nI_add, zg_true (zok_nI (show 6 + m < 138 by omega) (by omega)), zlet_eq, nI_cl (by omega), show (10 : Int32) * nI j = nI (10 * j) from by rw [nI_lit10]; exact nI_mul' 10 j]
  have fr : ∀ a i, ¬ CF 1 a i → (zI M3 123 (6 + m) (nI (10 * j))).1 a i = M.1 a i := fun a i z => by rw [zI_of (fun w => z (by rw [w.1, w.2]; unfold CF; omega)), b3 a i z]
  have hM4 : MR (zI M3 123 (6 + m) (nI (10 * j))) q V I D S B F := hM.mono (fun a i d => fr a i (by unfold dM at d; unfold CF; omega))
  have hC4 : CR (zI M3 123 (6 + m) (nI (10 * j))) q V I D S B F := hC.hi (fun a i z => fr a i (CF_lo (by omega))) (by show M3.2.2 = _; rw [b2])
  have hv : mV (zI M3 123 (6 + m) (nI (10 * j))) q 1 (sRueV q m j) := by
    have h3 : mV M3 q 1 (sBegin q.1 q.2.1 q.2.2.2.1) := by unfold mV; rw [b4, hM.2.1.2.1]
    exact h3.put (c := 2) (k := m) (vdN (by omega) (by omega) hm) (by omega) (by omega)
  have hT4 : mT (zI M3 123 (6 + m) (nI (10 * j))) q (sRueV q m j) := ⟨hM4.2.1, hv, hv.hd hM4.1.ne (sRueV_wI hq hj).2.1⟩
  have fit : ∀ {N : zM} {W : AV} {s : Nat}, FrM 1 (zI M3 123 (6 + m) (nI (10 * j))) N → mT N q W → gX10_isSo (nI s) N = some (fitS S K W s) := fun {N W s} hf hW => by
    have h6 := (hM4.fr1 hf).2.2.2.2.2.1
    exact m_isSo hq h6 hs hK (m_size h6 hs hK hK2) (fun i hi => by rw [hf.1 141 i (by unfold MF; omega), fr 141 i (CF_hi (by omega))]; exact hk i hi) hW
  obtain ⟨r1, e1, hr1⟩ := zfix_seek (B := gX10_fitsRue_L18 (nI L)) (s0 := (1, zI M3 123 (6 + m) (nI (10 * j)))) (fun k s => ∃ Mk : zM, s = (nI (k + 1), Mk) ∧ FrM 1 (zI M3 123 (6 + m) (nI (10 * j))) Mk ∧ mT Mk q (qRun q 0 (sRueV q m j) k)) (misF q S K m j) (fun k r => ∃ M', r = some (0, M') ∧ FrM 1 (zI M3 123 (6 + m) (nI (10 * j))) M') (fun r => ∃ M', r = some (1, M') ∧ FrM 1 (zI M3 123 (6 + m) (nI (10 * j))) M') L ⟨_, rfl, FrM.rf, hT4⟩ (by unfold zFu; omega) (fun k hk hp s hs' => by
      obtain ⟨Mk, rfl, g1, g2⟩ := hs'
      obtain ⟨M', k1, k2, k3, k4⟩ := g2.step (wy := 0) hq ((wy0 hM4.1).fr g1) (qRun_wI hq (sRueV_wI hq hj) k)
      refine ⟨(nI (k + 1 + 1), M'), ⟨M', rfl, g1.tr k2, k3⟩, fun rc => ?_⟩
      unfold gX10_fitsRue_L18
      dsimp only
      have hne : ¬ fitS S K (qRun q 0 (sRueV q m j) (k + 1)) (k + 1) = 0 := by unfold misF at hp; simpa using hp
      rw [if_neg (by rw [nI_lt_iff (by omega) (by omega)]; omega), zcV_some k1, zcI_some (fit (W := qRun q 0 (sRueV q m j) (k + 1)) (g1.tr k2) k3), if_neg hne, nI_1]) (fun k hk hp s hs' => by
      obtain ⟨Mk, rfl, g1, g2⟩ := hs'
      obtain ⟨M', k1, k2, k3, k4⟩ := g2.step (wy := 0) hq ((wy0 hM4.1).fr g1) (qRun_wI hq (sRueV_wI hq hj) k)
      refine ⟨some (0, M'), ⟨M', rfl, g1.tr k2⟩, fun rc => ?_⟩
      unfold gX10_fitsRue_L18
      dsimp only
      have hne : fitS S K (qRun q 0 (sRueV q m j) (k + 1)) (k + 1) = 0 := by unfold misF at hp; simpa using hp
      rw [if_neg (by rw [nI_lt_iff (by omega) (by omega)]; omega), zcV_some k1, zcI_some (fit (W := qRun q 0 (sRueV q m j) (k + 1)) (g1.tr k2) k3), if_pos hne]) (fun s hs' => by
      obtain ⟨Mk, rfl, g1, g2⟩ := hs'
      refine ⟨some (1, Mk), ⟨Mk, rfl, g1⟩, fun rc => ?_⟩
      unfold gX10_fitsRue_L18
      dsimp only
      rw [if_pos (by rw [nI_lt_iff (by omega) (by omega)]; omega)])
  have hfin : ∃ M', zfix zFu (gX10_fitsRue_L18 (nI L)) (1, zI M3 123 (6 + m) (nI (10 * j))) = some (agrS q S K m j L, M') ∧ FrM 1 (zI M3 123 (6 + m) (nI (10 * j))) M' := by
    rw [e1]
    unfold agrS
    cases hf : ffst (misF q S K m j) L with
    | some k => rw [hf] at hr1; exact hr1
    | none => rw [hf] at hr1; exact hr1
  obtain ⟨M', e', f'⟩ := hfin
  exact ⟨M', e', hC4.frM f', hM4.fr1 f', fun i hi => by rw [f'.1 141 i (by unfold MF; omega), fr 141 i (CF_hi (by omega))]; exact hk i hi⟩
