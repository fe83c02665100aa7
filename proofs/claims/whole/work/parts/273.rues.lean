/-! rues -/
theorem ffst_is {P : Nat → Bool} {n k : Nat} (hk : k < n) (hp : P k = true) (hu : ∀ i, i < k → P i = false) : ffst P n = some k := by
  cases h : ffst P n with
  | none => have := ffst_none h k hk; rw [hp] at this; cases this
  | some j =>
    obtain ⟨h1, h2, h3⟩ := ffst_some h
    rcases Nat.lt_trichotomy j k with w | w | w
    · rw [hu j w] at h2; cases h2
    · rw [w]
    · rw [h3 k w] at hp; cases hp
theorem ffst_all {P : Nat → Bool} {n : Nat} (h : ∀ k, k < n → P k = false) : ffst P n = none := by
  cases e : ffst P n with
  | none => rfl
  | some j =>
    obtain ⟨h1, h2, h3⟩ := ffst_some e
    rw [h j h1] at h2; cases h2
theorem ffst_ext {P : Nat → Bool} {n N : Nat} (hn : n ≤ N) (h : ∀ k, n ≤ k → k < N → P k = false) : ffst P N = ffst P n := by
  cases e : ffst P n with
  | some j =>
    obtain ⟨h1, h2, h3⟩ := ffst_some e
    exact ffst_is (by omega) h2 h3
  | none => exact ffst_all (fun k hk => by
      by_cases w : k < n
      · exact ffst_none e k w
      · exact h k (by omega) hk)
/-- which entries are known still, once t of K entries were looked at, from the last on -/
def knF (S3 : Nat → Int32) (K : Nat) : Nat → (Nat → Bool)
  | 0 => fun i => decide (i < K)
  | t + 1 => if knF S3 K t (K - 1 - t) = true ∧ S3 (K - 1 - t) ≠ -1 then (fun j => if nI j = S3 (K - 1 - t) then false else knF S3 K t j) else knF S3 K t
theorem knF_s {S3 : Nat → Int32} {K t : Nat} : knF S3 K (t + 1) = if knF S3 K t (K - 1 - t) = true ∧ S3 (K - 1 - t) ≠ -1 then (fun j => if nI j = S3 (K - 1 - t) then false else knF S3 K t j) else knF S3 K t := rfl
def sOk (S3 : Nat → Int32) (K : Nat) : Prop := ∀ k, k < K → S3 k = -1 ∨ ∃ j, j < k ∧ S3 k = nI j
theorem knF_keep {S3 : Nat → Int32} {K t i : Nat} (hs : sOk S3 K) (hK : K ≤ 24) (ht : t < K) (hi : K - 1 - t ≤ i) (hi2 : i < 24) : knF S3 K (t + 1) i = knF S3 K t i := by
  rw [knF_s]
  split
  · rename_i h
    rcases hs (K - 1 - t) (by omega) with e | ⟨j, hj, e⟩
    · exact absurd e h.2
    · dsimp only
      rw [e, if_neg]
      intro w
      have := congrArg Int32.toInt w
      rw [nI_toInt (by omega), nI_toInt (by omega)] at this
      omega
  · rfl
theorem knF_fin {S3 : Nat → Int32} {K t i : Nat} (hs : sOk S3 K) (hK : K ≤ 24) (hi : K ≤ i + t + 1) (hi2 : i < 24) : ∀ d, t + d ≤ K → knF S3 K (t + d) i = knF S3 K t i := by
  intro d
  induction d with
  | zero => intro _; rfl
  | succ d ih =>
    intro h
    rw [show t + (d + 1) = (t + d) + 1 by omega, knF_keep hs hK (by omega) (by omega) hi2]
    exact ih (by omega)
theorem knF_out {S3 : Nat → Int32} {K : Nat} : ∀ t i, K ≤ i → knF S3 K t i = false := by
  intro t
  induction t with
  | zero => intro i hi; exact decide_eq_false (by omega)
  | succ t ih =>
    intro i hi
    rw [knF_s]
    split
    · dsimp only
      split
      · rfl
      · exact ih i hi
    · exact ih i hi
def sAt (S : SSt) (i : Nat) : Nat := (S.2.2 0 i).toNatClampNeg
def mxD (S : SSt) (K : Nat) : Nat → Nat
  | 0 => 0
  | t + 1 => if knF (S.2.2 3) K t (K - 1 - t) = true ∧ S.2.2 3 (K - 1 - t) = -1 then max (mxD S K t) (sAt S (K - 1 - t)) else mxD S K t
def mxU (S : SSt) (K : Nat) : Nat → Nat
  | 0 => 0
  | i + 1 => if knF (S.2.2 3) K K i = true ∧ S.2.2 3 i = -1 then max (mxU S K i) (sAt S i) else mxU S K i
def mxW (S : SSt) (K i : Nat) : Nat := if knF (S.2.2 3) K K i = true ∧ S.2.2 3 i = -1 then sAt S i else 0
theorem mxU_spec {S : SSt} {K : Nat} : ∀ n, (∀ i, i < n → mxW S K i ≤ mxU S K n) ∧ (mxU S K n = 0 ∨ ∃ i, i < n ∧ mxU S K n = mxW S K i) := by
  intro n
  induction n with
  | zero => exact ⟨fun i h => by omega, Or.inl rfl⟩
  | succ n ih =>
    have e : mxU S K (n + 1) = max (mxU S K n) (mxW S K n) := by
      unfold mxW
      show (if _ then _ else _) = _
      by_cases h : knF (S.2.2 3) K K n = true ∧ S.2.2 3 n = -1
      · rw [if_pos h, if_pos h]
      · rw [if_neg h, if_neg h]; omega
    rw [e]
    refine ⟨fun i hi => ?_, ?_⟩
    · by_cases w : i = n
      · subst w; omega
      · have := ih.1 i (by omega); omega
    · by_cases w : mxW S K n ≤ mxU S K n
      · rw [Nat.max_eq_left w]
        rcases ih.2 with h | ⟨i, hi, h⟩
        · exact Or.inl h
        · exact Or.inr ⟨i, by omega, h⟩
      · exact Or.inr ⟨n, by omega, by omega⟩
theorem mxD_spec {S : SSt} {K : Nat} (hs : sOk (S.2.2 3) K) (hK : K ≤ 24) : ∀ t, t ≤ K → (∀ i, i < K → K ≤ i + t → mxW S K i ≤ mxD S K t) ∧ (mxD S K t = 0 ∨ ∃ i, i < K ∧ mxD S K t = mxW S K i) := by
  intro t
  induction t with
  | zero => intro _; exact ⟨fun i h h2 => by omega, Or.inl rfl⟩
  | succ t ih =>
    intro ht
    have ih := ih (by omega)
    have ek : knF (S.2.2 3) K K (K - 1 - t) = knF (S.2.2 3) K t (K - 1 - t) := by
      have := knF_fin hs hK (t := t) (i := K - 1 - t) (by omega) (by omega) (K - t) (by omega)
      rw [show t + (K - t) = K by omega] at this
      exact this
    have e : mxD S K (t + 1) = max (mxD S K t) (mxW S K (K - 1 - t)) := by
      unfold mxW
      rw [ek]
      show (if _ then _ else _) = _
      by_cases h : knF (S.2.2 3) K t (K - 1 - t) = true ∧ S.2.2 3 (K - 1 - t) = -1
      · rw [if_pos h, if_pos h]
      · rw [if_neg h, if_neg h]; omega
    rw [e]
    refine ⟨fun i hi h2 => ?_, ?_⟩
    · by_cases w : i = K - 1 - t
      · subst w; omega
      · have := ih.1 i hi (by omega); omega
    · by_cases w : mxW S K (K - 1 - t) ≤ mxD S K t
      · rw [Nat.max_eq_left w]; exact ih.2
      · exact Or.inr ⟨K - 1 - t, by omega, by omega⟩
theorem mx_eq {S : SSt} {K : Nat} (hs : sOk (S.2.2 3) K) (hK : K ≤ 24) : mxD S K K = mxU S K K := by
  have a := mxD_spec hs hK K (Nat.le_refl _)
  have b := mxU_spec (S := S) (K := K) K
  have h1 : mxD S K K ≤ mxU S K K := by
    rcases a.2 with e | ⟨i, hi, e⟩
    · omega
    · rw [e]; exact b.1 i hi
  have h2 : mxU S K K ≤ mxD S K K := by
    rcases b.2 with e | ⟨i, hi, e⟩
    · omega
    · rw [e]; exact a.1 i hi (by omega)
  omega
theorem sI.ok {q : PPt} {S : SSt} {K : Nat} (h : sI q S) (hK : K ≤ S.1) : sOk (S.2.2 3) K := fun k hk => by
  rcases h.2.2 k (by omega) with e | ⟨j, hj, e⟩
  · exact Or.inl e.1
  · exact Or.inr ⟨j, hj, e⟩
theorem mxD_le {q : PPt} {S : SSt} {K : Nat} (h : sI q S) (hK : K ≤ S.1) : ∀ t, t ≤ K → mxD S K t ≤ 60 := by
  intro t
  induction t with
  | zero => intro _; exact Nat.zero_le _
  | succ t ih =>
    intro ht
    have ih := ih (by omega)
    have h24 := h.1
    show (if _ then _ else _) ≤ 60
    split
    · rename_i w
      have : sAt S (K - 1 - t) ≤ 60 := by
        rcases h.2.2 (K - 1 - t) (by omega) with e | ⟨j, hj, e⟩
        · obtain ⟨_, ⟨s, s1, s2, s3⟩, _⟩ := e
          unfold sAt; rw [s3, nI_cl (by omega)]; exact s2
        · rw [e] at w; exact absurd w.2 (nI_ne_m1 (by omega))
      exact Nat.max_le.mpr ⟨ih, this⟩
    · exact ih
theorem sAt_nI {q : PPt} {S : SSt} {i : Nat} (h : sI q S) (hi : i < S.1) (h3 : S.2.2 3 i = -1) : S.2.2 0 i = nI (sAt S i) ∧ sAt S i ≤ 60 := by
  have h24 := h.1
  rcases h.2.2 i hi with e | ⟨j, hj, e⟩
  · obtain ⟨_, ⟨s, s1, s2, s3⟩, _⟩ := e
    unfold sAt; rw [s3, nI_cl (by omega)]; exact ⟨rfl, s2⟩
  · rw [e] at h3; exact absurd h3 (nI_ne_m1 (by omega))
theorem nI_max {a b : Nat} (ha : a < 1000) (hb : b < 1000) : (if nI a < nI b then nI b else nI a) = nI (max a b) := by
  by_cases h : a < b
  · rw [if_pos ((nI_lt_iff (by omega) (by omega)).mpr h), Nat.max_eq_right (by omega)]
  · rw [if_neg (fun w => h ((nI_lt_iff (by omega) (by omega)).mp w)), Nat.max_eq_left (by omega)]
/-- by how many is known -/
theorem c_size {M : zM} {S : SSt} {q : PPt} (hc : cSi M S) (hs : sI q S) : ∃ K, K ≤ S.1 ∧ gX4_knownSize M = some (nI K) ∧ (S.2.1 = -1 ∧ K = S.1 ∨ S.2.1 = nI K) := by
  have h24 := hs.1
  unfold gX4_knownSize
  rw [hc.1, hc.2.1]
  rcases hs.2.1 with e | ⟨k, hk, e⟩
  · rw [e, if_neg (by decide)]; exact ⟨S.1, Nat.le_refl _, rfl, Or.inl ⟨rfl, rfl⟩⟩
  · rw [e, if_pos (nI_nn (by omega))]; exact ⟨k, hk, rfl, Or.inr rfl⟩
theorem m_size {M : zM} {S : SSt} {q : PPt} {K : Nat} (hc : mSi M S) (hs : sI q S) (hK : K ≤ S.1) (h : S.2.1 = -1 ∧ K = S.1 ∨ S.2.1 = nI K) : gX10_knownMany M = some (nI K) := by
  have h24 := hs.1
  unfold gX10_knownMany
  rw [hc.1, hc.2.1]
  rcases h with ⟨e, e2⟩ | e
  · rw [e, if_pos rfl, e2]
  · rw [e, if_neg (nI_ne_m1 (by omega))]
theorem b2i_at {b : Bool} : (b2i b = 0) = (b = false) := by cases b <;> simp [b2i]
theorem nI_prev {K t : Nat} (h : t < K) : nI (K - t) - 1 = nI (K - 1 - t) := by
  rw [show K - t = (K - 1 - t) + 1 by omega]; exact nI_dec
theorem nI_last {K t : Nat} (h : t < K) : nI (K - 1 - t) + (-1) = nI (K - (t + 1)) - 1 := by
  rw [show K - (t + 1) = K - 1 - t by omega, Int32.sub_eq_add_neg]
/-- the class marks what is known -/
theorem c_mark {M : zM} {q : PPt} {S : SSt} {K : Nat} (hc : cSi M S) (hs : sI q S) (hK : K ≤ S.1) (hk : gX4_knownSize M = some (nI K)) :
    ∃ M', gX4_markKnown M = some (nI (mxD S K K), M') ∧ M'.2 = M.2 ∧ (∀ a i, a ≠ 94 → M'.1 a i = M.1 a i) ∧ ∀ i, i < 24 → M'.1 94 i = b2i (knF (S.2.2 3) K K i) := by
  have h24 := hs.1
  have hso := hs.ok hK
  unfold gX4_markKnown
  rw [zcI_some hk, zlet_eq, lit24, if_neg (by rw [nI_lt_iff (by omega) (by omega)]; omega)]
  obtain ⟨s', N', ⟨Mk, rfl, g1, g2, g3⟩, e⟩ := zfix_inv (B := gX4_markKnown_L12 (nI K)) (fun k s => ∃ Mk : zM, s = (nI k, Mk) ∧ Mk.2 = M.2 ∧ (∀ a i, a ≠ 94 → Mk.1 a i = M.1 a i) ∧ ∀ i, i < k → Mk.1 94 i = b2i (decide (i < K))) 24 (fun k hk s hs => by
      obtain ⟨Mk, rfl, g1, g2, g3⟩ := hs
      refine ⟨(nI (k + 1), zI Mk 94 k (b2i (decide (k < K)))), ⟨_, rfl, g1, fun a i z => by rw [zI_of (by omega), g2 a i z], fun i hi => ?_⟩, fun rc => ?_⟩
      · by_cases e : i = k
        · subst e; rw [zI_at]
        · rw [zI_of (by omega), g3 i (by omega)]
      · unfold gX4_markKnown_L12
        dsimp only
        rw [lit24, if_neg (nI_ge hk (by omega))]
        by_cases w : K ≤ k
        · rw [if_pos (nI_le w (by omega)), zg_true (zok_nI (show k < 24 by omega) (by omega)), zlet_eq, nI_cl (by omega), nI_1, nar_b (Or.inl rfl), decide_eq_false (by omega)]; rfl
        · rw [if_neg (nI_ge (by omega) (by omega)), zg_true (zok_nI (show k < 24 by omega) (by omega)), zlet_eq, nI_cl (by omega), nI_1, nar_b (Or.inr rfl), decide_eq_true (by omega)]; rfl) 24 0 zFu (0, M) (by omega) (by unfold zFu; omega) ⟨M, by rw [nI_0], rfl, fun _ _ _ => rfl, fun _ h => absurd h (by omega)⟩
  rw [e]
  unfold gX4_markKnown_L12
  dsimp only
  rw [lit24, if_pos (nI_le (Nat.le_refl _) (by omega))]
  have c93 : ∀ {N : zM}, (∀ a i, a ≠ 94 → N.1 a i = M.1 a i) → ∀ i, i < K → N.1 93 i = S.2.2 3 i := fun h i hi => by rw [h 93 i (by omega)]; exact (hc.2.2 i (by omega)).1
  obtain ⟨s2, N2, ⟨Mj, rfl, j1, j2, j3⟩, e2⟩ := zfix_inv (B := gX4_markKnown_L46) (fun t s => ∃ Mj : zM, s = (nI (mxD S K t), nI (K - t) - 1, Mj) ∧ Mj.2 = M.2 ∧ (∀ a i, a ≠ 94 → Mj.1 a i = M.1 a i) ∧ ∀ i, i < 24 → Mj.1 94 i = b2i (knF (S.2.2 3) K t i)) K (fun t ht s hs' => by
      obtain ⟨Mj, rfl, j1, j2, j3⟩ := hs'
      have hi : K - 1 - t < 24 := by omega
      have q24 : ∀ e : Option (Int32 × zM), zg (zok (nI (K - 1 - t)) 24) e = e := fun e => zg_true (zok_nI hi (by omega))
      have hD := mxD_le hs hK t (by omega)
      have body : ∀ rc, gX4_markKnown_L46 rc (nI (mxD S K t), nI (K - t) - 1, Mj) = (if knF (S.2.2 3) K t (K - 1 - t) = false then gX4_markKnown_J94 (nI (mxD S K t)) (nI (K - 1 - t)) rc Mj else (if S.2.2 3 (K - 1 - t) < 0 then gX4_markKnown_J94 (nI (mxD S K t)) (nI (K - 1 - t)) rc Mj else (if nI 24 ≤ S.2.2 3 (K - 1 - t) then gX4_markKnown_J94 (nI (mxD S K t)) (nI (K - 1 - t)) rc Mj else zg (zok (S.2.2 3 (K - 1 - t)) 24) (rc (nI (mxD S K t), nI (K - (t + 1)) - 1, zI Mj 94 (S.2.2 3 (K - 1 - t)).toNatClampNeg 0))))) := fun rc => by
        unfold gX4_markKnown_L46
        dsimp only
        rw [nI_prev ht, if_neg (nI_pos (by omega))]
        simp only [q24]
        rw [nI_cl (by omega), j3 _ hi, c93 j2 _ (by omega), lit24, nar_b (Or.inl rfl), nI_last ht]
        simp only [b2i_at]
        rfl
      have J94 : ∀ rc, gX4_markKnown_J94 (nI (mxD S K t)) (nI (K - 1 - t)) rc Mj = (if knF (S.2.2 3) K t (K - 1 - t) = false then rc (nI (mxD S K t), nI (K - (t + 1)) - 1, Mj) else rc ((if nI (mxD S K t) < Mj.1 90 (K - 1 - t) then Mj.1 90 (K - 1 - t) else nI (mxD S K t)), nI (K - (t + 1)) - 1, Mj)) := fun rc => by
        unfold gX4_markKnown_J94
        simp only [q24]
        rw [nI_cl (by omega), j3 _ hi, zlet_eq, nI_last ht]
        simp only [b2i_at]
      cases hb : knF (S.2.2 3) K t (K - 1 - t) with
      | false =>
        have e1 : knF (S.2.2 3) K (t + 1) = knF (S.2.2 3) K t := if_neg (fun w => by rw [hb] at w; exact absurd w.1 (by decide))
        have e2 : mxD S K (t + 1) = mxD S K t := if_neg (fun w => by rw [hb] at w; exact absurd w.1 (by decide))
        refine ⟨(nI (mxD S K (t + 1)), nI (K - (t + 1)) - 1, Mj), ⟨Mj, rfl, j1, j2, by rw [e1]; exact j3⟩, fun rc => ?_⟩
        rw [body, hb, if_pos rfl, J94, hb, if_pos rfl, e2]
      | true =>
        rcases hso (K - 1 - t) (by omega) with e | ⟨j, hj, e⟩
        · have e1 : knF (S.2.2 3) K (t + 1) = knF (S.2.2 3) K t := if_neg (fun w => w.2 e)
          have e2 : mxD S K (t + 1) = max (mxD S K t) (sAt S (K - 1 - t)) := if_pos ⟨hb, e⟩
          have h90 : Mj.1 90 (K - 1 - t) = nI (sAt S (K - 1 - t)) := by rw [j2 90 _ (by omega), show M.1 90 (K - 1 - t) = _ from (hc.2.2 _ (by omega)).2.1 e 0 (by omega)]; exact (sAt_nI hs (by omega) e).1
          have := (sAt_nI hs (show K - 1 - t < S.1 by omega) e).2
          refine ⟨(nI (mxD S K (t + 1)), nI (K - (t + 1)) - 1, Mj), ⟨Mj, rfl, j1, j2, by rw [e1]; exact j3⟩, fun rc => ?_⟩
          rw [body, hb, if_neg (by decide), e, if_pos (by decide), J94, hb, if_neg (by decide), h90, nI_max (by omega) (by omega), e2]
        · have e1 : ∀ i, i < 24 → knF (S.2.2 3) K (t + 1) i = if i = j then false else knF (S.2.2 3) K t i := fun i hi => by
            rw [knF_s, if_pos ⟨hb, by rw [e]; exact nI_ne_m1 (by omega)⟩, e]
            by_cases w : i = j
            · rw [if_pos w, if_pos (by rw [w])]
            · rw [if_neg w, if_neg]
              intro w'
              have := congrArg Int32.toInt w'
              rw [nI_toInt (by omega), nI_toInt (by omega)] at this
              omega
          have e2 : mxD S K (t + 1) = mxD S K t := if_neg (fun w => by rw [e] at w; exact absurd w.2 (nI_ne_m1 (by omega)))
          refine ⟨(nI (mxD S K (t + 1)), nI (K - (t + 1)) - 1, zI Mj 94 j 0), ⟨_, rfl, j1, fun a i z => by rw [zI_of (by omega), j2 a i z], fun i hi => ?_⟩, fun rc => ?_⟩
          · rw [e1 i hi]
            by_cases w : i = j
            · rw [w, zI_at, if_pos rfl]; rfl
            · rw [zI_of (by omega), if_neg w]; exact j3 i hi
          · rw [body, hb, if_neg (by decide), e, if_neg (nI_pos (by omega)), if_neg (nI_ge (by omega) (by omega)), zg_true (zok_nI (show j < 24 by omega) (by omega)), nI_cl (by omega), e2]) K 0 zFu (0, nI K - 1, Mk) (by omega) (by unfold zFu; omega) ⟨Mk, by rw [Nat.sub_zero, ← nI_0]; rfl, g1, g2, g3⟩
  have hD := mxD_le hs hK K (Nat.le_refl _)
  refine ⟨Mj, ?_, j1, j2, j3⟩
  rw [e2]
  unfold gX4_markKnown_L46
  dsimp only
  rw [Nat.sub_self, if_pos (by decide), show (60 : Int32) = nI 60 by decide, if_neg (by rw [nI_lt_iff (by omega) (by omega)]; omega)]
