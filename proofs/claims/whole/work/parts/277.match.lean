theorem tb_fin {q : PPt} {V : AV} {A : Nat → Int32} {m mask : Nat} (h2 : m ≤ q.1) (h3 : mask < 2 ^ q.2.1) (h4 : mask < 256) : tb q V A 0 (2 ^ q.2.1) (m * 256 + mask) = nI (bst q V (q.1 - m) mask) := by
  rcases Nat.eq_zero_or_pos m with e | e
  · subst e
    unfold tb
    rw [if_pos (Or.inl (by omega)), show (0 * 256 + mask) / 256 = 0 by omega, show (0 * 256 + mask) % 256 = mask by omega]
  · exact tb_at e h2 h3 h4
def pm (q : PPt) (V : AV) : Nat → Nat
  | 0 => 0
  | m + 1 => if m < q.1 then mk2 (pm q V m) (bch q V (q.1 - (m + 1)) (pm q V m)) else pm q V m
def pk (q : PPt) (V : AV) (m : Nat) : Int32 := if m < q.1 then oT (bch q V (q.1 - (m + 1)) (pm q V m)) else -2
theorem bch_lt {q : PPt} {V : AV} {d mask t : Nat} (h : bch q V d mask = some t) : t < q.2.1 := ((chs_spec q.2.1).2 t h).1
theorem mk2_lt {q : PPt} {V : AV} {d mask : Nat} (h : mask < 2 ^ q.2.1) : mk2 mask (bch q V d mask) < 2 ^ q.2.1 := by
  unfold mk2
  cases e : bch q V d mask with
  | none => exact h
  | some t => exact or_lt h (bch_lt e)
theorem pm_lt {q : PPt} {V : AV} : ∀ m, pm q V m < 2 ^ q.2.1 := by
  intro m
  induction m with
  | zero => exact Nat.pow_pos (by omega)
  | succ m ih =>
    show (if _ then _ else _) < _
    split
    · exact mk2_lt ih
    · exact ih
theorem pth_pk {q : PPt} {V : AV} : ∀ d m, m + d = q.1 → ∀ i, m ≤ i → i < q.1 → pth q V d (pm q V m) i = pk q V i := by
  intro d
  induction d with
  | zero => intro m hm i h1 h2; omega
  | succ d ih =>
    intro m hm i h1 h2
    show (if i = q.1 - (d + 1) then oT (bch q V d (pm q V m)) else pth q V d (mk2 (pm q V m) (bch q V d (pm q V m))) i) = _
    by_cases e : i = m
    · rw [if_pos (by omega)]
      unfold pk
      rw [if_pos h2, e, show q.1 - (m + 1) = d by omega]
    · rw [if_neg (by omega), ← ih (m + 1) (by omega) i (by omega) h2]
      congr 1
      show _ = (if m < q.1 then _ else _)
      rw [if_pos (by omega), show q.1 - (m + 1) = d by omega]
def cC (q : PPt) (V : AV) (A : Nat → Int32) (m : Nat) : Nat → Int32 := fun i => if i < m then pk q V i else A i
theorem cC_put {q : PPt} {V : AV} {A : Nat → Int32} {m : Nat} : fset (cC q V A m) m (pk q V m) = cC q V A (m + 1) := by
  funext i
  unfold fset cC
  by_cases h : i = m
  · rw [if_pos h, if_pos (by omega), h]
  · rw [if_neg h]
    by_cases g : i < m
    · rw [if_pos g, if_pos (by omega)]
    · rw [if_neg g, if_neg (by omega)]
theorem fset_2 {A : Nat → Int32} {i : Nat} {x y : Int32} : fset (fset A i x) i y = fset A i y := by
  funext j
  unfold fset
  by_cases h : j = i
  · rw [if_pos h, if_pos h]
  · rw [if_neg h, if_neg h, if_neg h]
theorem fset_at {A : Nat → Int32} {i : Nat} {x : Int32} : fset A i x i = x := if_pos rfl
set_option maxHeartbeats 1000000 in
theorem c_choose {M : zM} {p : Nat} {q : PPt} {V : AV} {A : Nat → Int32} (h : cM M p q V) (hq : pI q) (hA : M.1 96 = tb q V A 0 (2 ^ q.2.1)) : gX2_choose 55 (nI q.1) M = some (rset M 97 (cC q V (M.1 97) 6)) := by
  have hn := hq.1.1
  have hT := hq.1.2.1
  have h256 := pow_8 hT
  unfold gX2_choose
  refine zfix_run (fun m => (nI (pm q V m), nI m, rset M 97 (cC q V (M.1 97) m))) 6 ?_ (by unfold zFu; omega) ?_ ?_
  · rw [show cC q V (M.1 97) 0 = M.1 97 from funext (fun i => if_neg (by omega)), rset_self, nI_0]; rfl
  · intro m hm rc
    have hp := pm_lt (q := q) (V := V) m
    have q6 : ∀ e : Option zM, zg (zok (nI m) 6) e = e := fun e => zg_true (zok_nI (show m < 6 by omega) (by omega))
    unfold gX2_choose_L5
    dsimp only
    rw [nI_lit6, if_neg (nI_ge hm (by omega))]
    simp only [q6]
    rw [zlet_eq, nI_cl (by omega), zI_rset, nI_1]
    by_cases hmn : m < q.1
    · have ep : pm q V (m + 1) = mk2 (pm q V m) (bch q V (q.1 - (m + 1)) (pm q V m)) := if_pos hmn
      have ek : pk q V m = oT (bch q V (q.1 - (m + 1)) (pm q V m)) := if_pos hmn
      rw [if_neg (nI_ge hmn (by omega)), nI_tab, nI_tab, zg_true (zok_nI (show (m + 1) * 256 + pm q V m < 1792 by omega) (by omega)), zg_true (zok_nI (show m * 256 + pm q V m < 1792 by omega) (by omega)), nI_cl (show (m + 1) * 256 + pm q V m < 2 ^ 31 by omega), nI_cl (show m * 256 + pm q V m < 2 ^ 31 by omega), rset_of (show 96 ≠ 97 by omega), hA, tb_fin (by omega) hp (by omega), tb_fin (by omega) hp (by omega)]
      have b1 := bst_le (V := V) hq (q.1 - (m + 1)) (pm q V m)
      have b2 := bst_le (V := V) hq (q.1 - m) (pm q V m)
      have eb : bst q V (q.1 - m) (pm q V m) = mxo (bst q V (q.1 - (m + 1)) (pm q V m)) (cn q V (q.1 - (q.1 - (m + 1) + 1)) (pm q V m)) (fun t => wt q t + bst q V (q.1 - (m + 1)) (pm q V m ||| 2 ^ t)) q.2.1 := by
        rw [show q.1 - m = q.1 - (m + 1) + 1 by omega]; rfl
      cases hb : bch q V (q.1 - (m + 1)) (pm q V m) with
      | none =>
        have := (chs_spec q.2.1).1 hb
        rw [eb, this, if_pos rfl]
        rw [hb] at ep ek
        rw [ep, ← cC_put, ek]
        rfl
      | some t =>
        obtain ⟨t1, t2, t3, t4, t5⟩ := (chs_spec q.2.1).2 t hb
        rw [← eb] at t4
        rw [if_neg (by
          intro w
          have := congrArg Int32.toInt w
          rw [nI_toInt (by omega), nI_toInt (by omega)] at this
          omega), zcI_some (c_first (A := A) (k' := 2 ^ q.2.1) (m' := 0) (h.row (Or.inr rfl)) hq hmn hp (by rw [rset_of (by omega)]; exact hA) (by omega) (by rw [rset_of (by omega), hA]; exact tb_fin (by omega) hp (by omega)) hb), zlet_eq, zI_rset, fset_2, rset_at, fset_at, if_neg (nI_pos (by omega)), zlet_eq, (bit_at (by omega) (by omega)).1]
        rw [hb] at ep ek
        rw [ep, ← cC_put, ek]
        rfl
    · have ep : pm q V (m + 1) = pm q V m := if_neg hmn
      have ek : pk q V m = -2 := if_neg hmn
      rw [if_pos (nI_le (by omega) (by omega)), ep, ← cC_put, ek]
  · intro rc
    unfold gX2_choose_L5
    dsimp only
    rw [nI_lit6, if_pos (nI_le (Nat.le_refl _) (by omega))]
theorem pow_i {T : Nat} (h : T ≤ 8) : (1 : Int32) <<< ((nI T : Int32) &&& 31) = nI (2 ^ T) := by
  have : ∀ m : Fin 9, (1 : Int32) <<< ((nI m.val : Int32) &&& 31) = nI (2 ^ m.val) := by decide
  exact this ⟨T, by omega⟩
theorem rset_rset {M : zM} {a : Nat} {A A' : Nat → Int32} : rset (rset M a A) a A' = rset M a A' := by
  unfold rset
  congr 1
  funext b
  dsimp only
  by_cases h : b = a
  · rw [if_pos h, if_pos h]
  · rw [if_neg h, if_neg h, if_neg h]
theorem c_solve {M : zM} {p : Nat} {q : PPt} {V : AV} (h : cM M p q V) (hq : pI q) :
    gX2_solve 55 M = some (nI (bst q V q.1 0), rset (rset M 96 (tb q V (M.1 96) 0 (2 ^ q.2.1))) 97 (cC q V (M.1 97) 6)) := by
  have hn := hq.1.1
  have hT := hq.1.2.1
  have h256 := pow_8 hT
  unfold gX2_solve
  rw [zgP_some h.1 h.2.1.1.1, h.2.1.1.2.1.1, zlet_eq, zgP_some h.1 h.2.1.1.1, h.2.1.1.2.2.1.1, zlet_eq, nI_lit6, if_neg (show ¬ nI 6 < nI q.1 by rw [nI_lt_iff (by omega) (by omega)]; omega), nI_lit8, if_neg (show ¬ nI 8 < nI q.2.1 by rw [nI_lt_iff (by omega) (by omega)]; omega), pow_i hT]
  have last : gX2_choose 55 (nI q.1) (rset M 96 (tb q V (M.1 96) 0 (2 ^ q.2.1))) = some (rset (rset M 96 (tb q V (M.1 96) 0 (2 ^ q.2.1))) 97 (cC q V (M.1 97) 6)) := by
    rw [c_choose (A := M.1 96) (h.row (Or.inl rfl)) hq rset_at, rset_of (show 97 ≠ 96 by omega)]
  have inner : ∀ m, m < q.1 → ∀ rc, zfix zFu (gX2_solve_L70 55 (nI q.1) (nI (2 ^ q.2.1)) (nI m) rc) (0, rset M 96 (tb q V (M.1 96) m 0)) = rc (nI m + (-1), rset M 96 (tb q V (M.1 96) m (2 ^ q.2.1))) := fun m hm rc => by
    refine zfix_run (fun k => (nI k, rset M 96 (tb q V (M.1 96) m k))) (2 ^ q.2.1) (by rw [nI_0]) (by unfold zFu; omega) ?_ ?_
    · intro k hk rc'
      unfold gX2_solve_L70
      dsimp only
      rw [if_neg (nI_ge hk (by omega)), zcI_some (c_most (A := M.1 96) (k' := k) (h.row (Or.inl rfl)) hq hm hk rset_at), nI_tab, zg_true (zok_nI (show m * 256 + k < 1792 by omega) (by omega)), zlet_eq, nI_cl (by omega), zI_rset, tb_put (by omega), nI_1]
    · intro rc'
      unfold gX2_solve_L70
      dsimp only
      rw [if_pos (nI_le (Nat.le_refl _) (by omega))]
  have mid : zfix zFu (gX2_solve_L62 55 (nI q.1) (nI (2 ^ q.2.1))) (nI q.1 - 1, rset M 96 (tb q V (M.1 96) q.1 (2 ^ q.2.1))) = some (nI (bst q V q.1 0), rset (rset M 96 (tb q V (M.1 96) 0 (2 ^ q.2.1))) 97 (cC q V (M.1 97) 6)) := by
    refine zfix_run (fun j => (nI (q.1 - j) - 1, rset M 96 (tb q V (M.1 96) (q.1 - j) (2 ^ q.2.1)))) q.1 (by rw [Nat.sub_zero]) (by unfold zFu; omega) ?_ ?_
    · intro j hj rc
      unfold gX2_solve_L62
      dsimp only
      rw [nI_prev hj, if_neg (nI_pos (by omega)), show q.1 - j = (q.1 - 1 - j) + 1 by omega, tb_next (by omega), inner _ (by omega), nI_last hj, show q.1 - 1 - j = q.1 - (j + 1) by omega]
    · intro rc
      unfold gX2_solve_L62
      dsimp only
      rw [Nat.sub_self, if_pos (by decide), zcV_some last, cl0, rset_of (show 96 ≠ 97 by omega), rset_at]
      have := tb_fin (q := q) (V := V) (A := M.1 96) (m := 0) (mask := 0) (by omega) (Nat.pow_pos (by omega)) (by omega)
      rw [Nat.zero_mul, Nat.sub_zero] at this
      rw [show tb q V (M.1 96) 0 (2 ^ q.2.1) 0 = _ from this]
  refine zfix_run (fun k => (nI k, rset M 96 (tb q V (M.1 96) q.1 k))) (2 ^ q.2.1) ?_ (by unfold zFu; omega) ?_ ?_
  · rw [show tb q V (M.1 96) q.1 0 = M.1 96 from funext (fun i => if_neg (by omega)), rset_self, nI_0]
  · intro k hk rc
    unfold gX2_solve_L31
    dsimp only
    rw [if_neg (nI_ge hk (by omega)), nI_tab, zg_true (zok_nI (show q.1 * 256 + k < 1792 by omega) (by omega)), zlet_eq, nI_cl (by omega), zI_rset, nI_1]
    have := tb_put (q := q) (V := V) (A := M.1 96) (m := q.1) (k := k) (by omega)
    rw [Nat.sub_self, show bst q V 0 k = 0 from rfl, nI_0] at this
    rw [this]
  · intro rc
    unfold gX2_solve_L31
    dsimp only
    rw [if_pos (nI_le (Nat.le_refl _) (by omega))]
    exact mid
/-! the reference's match -/
def mA (M : zM) (q : PPt) (V : AV) : Prop := mPl M q ∧ mV M q 0 V
def FrA (m : Nat) (M M' : zM) : Prop := M'.2 = M.2 ∧ (∀ a i, ¬ (a = 98 ∧ i = 57) → a ≠ 133 → a ≠ 134 → M'.1 a i = M.1 a i) ∧ ∀ i, i < m → M'.1 133 i = M.1 133 i
theorem FrA.tr {m : Nat} {M M1 M2 : zM} (h : FrA m M M1) (h2 : FrA m M1 M2) : FrA m M M2 := ⟨by rw [h2.1, h.1], fun a i z1 z2 z3 => by rw [h2.2.1 a i z1 z2 z3, h.2.1 a i z1 z2 z3], fun i hi => by rw [h2.2.2 i hi, h.2.2 i hi]⟩
theorem FrA.le {m m' : Nat} {M M1 : zM} (h : FrA m M M1) (hm : m' ≤ m) : FrA m' M M1 := ⟨h.1, h.2.1, fun i hi => h.2.2 i (by omega)⟩
theorem mA.fr {m : Nat} {M M' : zM} {q : PPt} {V : AV} (h : mA M q V) (hq : pI q) (hf : FrA m M M') : mA M' q V :=
  ⟨h.1.mono (fun a i z1 z2 => hf.2.1 a i (by omega) (by omega) (by omega)), h.2.mono hq.1.1 hq.1.2.1 (by omega) (fun a i d => hf.2.1 a i (by unfold dM at d; omega) (by unfold dM at d; omega) (by unfold dM at d; omega))⟩
theorem FrA.put {m i : Nat} {M : zM} {x : Int32} (h : m ≤ i) : FrA m M (zI M 133 i x) := ⟨rfl, fun a j _ z2 _ => zI_of (by omega), fun j hj => zI_of (by omega)⟩
theorem top_lt {b x : Nat} (hb : b < 100000) (hx : x < 100000) : nI b - 1 < nI x ↔ b ≤ x := by
  rcases Nat.eq_zero_or_pos b with e | e
  · subst e
    refine ⟨fun _ => by omega, fun _ => ?_⟩
    rw [show nI 0 - 1 = -1 by decide, Int32.lt_iff_toInt_lt, nI_toInt (by omega)]
    have : (-1 : Int32).toInt = -1 := by decide
    omega
  · rw [show b = (b - 1) + 1 by omega, nI_dec, nI_lt_iff (by omega) (by omega)]
    omega
theorem chs_none {b0 : Nat} {c : Nat → Bool} {v : Nat → Nat} (h : ∀ i, c i = false) : ∀ k, chs b0 c v k = none ∧ mxo b0 c v k = b0 := by
  intro k
  induction k with
  | zero => exact ⟨rfl, rfl⟩
  | succ k ih => rw [chs_s, mxo_s, h k]; simpa using ih
/-- what the recursion leaves -/
def mOut (q : PPt) (M M' : zM) (m b w : Nat) (ph : Nat → Int32) : Prop := M'.1 98 57 = nI (max b (w + 1)) - 1 ∧ ∀ i, i < q.1 → M'.1 134 i = if b ≤ w then (if i < m then M.1 133 i else ph i) else M.1 134 i
set_option maxHeartbeats 2000000 in
theorem m_match {q : PPt} {V : AV} (hq : pI q) : ∀ d f mask x b M, d ≤ q.1 → d + 1 ≤ f → mask < 2 ^ q.2.1 → x + 99 * d ≤ 1000 → b ≤ 1001 → mA M q V → M.1 98 57 = nI b - 1 →
    ∃ M', gGA f (nI (q.1 - d)) (nI mask) (nI x) M = some M' ∧ FrA (q.1 - d) M M' ∧ mOut q M M' (q.1 - d) b (x + bst q V d mask) (pth q V d mask) := by
  have hn := hq.1.1
  have hT := hq.1.2.1
  have h256 := pow_8 hT
  intro d
  induction d with
  | zero =>
    intro f mask x b M hd hf hmask hx hb hA h57
    obtain ⟨f', rfl⟩ : ∃ f', f = f' + 1 := ⟨f - 1, by omega⟩
    show ∃ M', bX10_matches (gGA f') (nI (q.1 - 0)) (nI mask) (nI x) M = some M' ∧ _
    unfold bX10_matches
    rw [Nat.sub_zero, cl0, hA.1.1.1.1, if_pos rfl, h57]
    unfold mOut
    simp only [show bst q V 0 mask = 0 from rfl, Nat.add_zero]
    by_cases hlt : b ≤ x
    · rw [if_pos ((top_lt (by omega) (by omega)).mpr hlt), zlet_eq]
      obtain ⟨s', N', ⟨Mk, rfl, g1, g2, g3⟩, e⟩ := zfix_inv (B := gX10_matches_L27 (gGA f') (nI q.1)) (fun k s => ∃ Mk : zM, s = (nI k, Mk) ∧ Mk.2 = M.2 ∧ (∀ a i, a ≠ 134 → Mk.1 a i = (zI M 98 57 (nI x)).1 a i) ∧ ∀ i, i < k → Mk.1 134 i = M.1 133 i) q.1 (fun k hk s hs => by
          obtain ⟨Mk, rfl, g1, g2, g3⟩ := hs
          refine ⟨(nI (k + 1), zI Mk 134 k (M.1 133 k)), ⟨_, rfl, g1, fun a i z => by rw [zI_of (by omega), g2 a i z], fun i hi => ?_⟩, fun rc => ?_⟩
          · by_cases e : i = k
            · rw [e, zI_at]
            · rw [zI_of (by omega), g3 i (by omega)]
          · unfold gX10_matches_L27
            dsimp only
            rw [if_neg (nI_ge hk (by omega)), zg_true (zok_nI (show k < 6 by omega) (by omega)), zg_true (zok_nI (show k < 6 by omega) (by omega)), zlet_eq, nI_cl (by omega), nI_1, g2 133 k (by omega), zI_of (by omega)]) q.1 0 zFu (0, zI M 98 57 (nI x)) (by omega) (by unfold zFu; omega) ⟨zI M 98 57 (nI x), by rw [nI_0], rfl, fun _ _ _ => rfl, fun _ h => absurd h (by omega)⟩
      rw [e]
      unfold gX10_matches_L27
      dsimp only
      rw [if_pos (nI_le (Nat.le_refl _) (by omega))]
      refine ⟨Mk, rfl, ⟨g1, fun a i z1 z2 z3 => by rw [g2 a i z3, zI_of z1], fun i hi => by rw [g2 133 i (by omega), zI_of (by omega)]⟩, ?_, fun i hi => ?_⟩
      · rw [g2 98 57 (by omega), zI_at, Nat.max_eq_right (by omega), nI_dec]
      · rw [if_pos hlt, if_pos hi, g3 i hi]
    · rw [if_neg (fun w => hlt ((top_lt (by omega) (by omega)).mp w))]
      refine ⟨M, rfl, ⟨rfl, fun _ _ _ _ _ => rfl, fun _ _ => rfl⟩, by rw [h57, Nat.max_eq_left (by omega)], fun i hi => by rw [if_neg hlt]⟩
  | succ d ih =>
    intro f mask x b M hd hf hmask hx hb hA h57
    obtain ⟨f', rfl⟩ : ∃ f', f = f' + 1 := ⟨f - 1, by omega⟩
    have em : ∃ m, m = q.1 - (d + 1) := ⟨_, rfl⟩
    obtain ⟨m, em⟩ := em
    have em1 : q.1 - d = m + 1 := by omega
    rw [em1] at ih
    rw [← em]
    show ∃ M', bX10_matches (gGA f') (nI m) (nI mask) (nI x) M = some M' ∧ _
    unfold bX10_matches
    rw [cl0, hA.1.1.1.1, if_neg (by
      intro w
      have := congrArg Int32.toInt w
      rw [nI_toInt (by omega), nI_toInt (by omega)] at this
      omega), zg_true (zok_nI (show m < 6 by omega) (by omega)), zlet_eq, nI_cl (by omega), nI_1]
    have f0 : FrA m M (zI M 133 m (-2)) := FrA.put (Nat.le_refl _)
    obtain ⟨M4, a1, a2, a3⟩ := ih f' mask x b (zI M 133 m (-2)) (by omega) (by omega) hmask (by omega) hb (hA.fr hq f0) (by rw [zI_of (by omega)]; exact h57)
    rw [zcV_some a1]
    have f4 : FrA m M M4 := f0.tr (a2.le (by omega))
    have hcv : ∃ cv : Nat → Bool, cv = cn q V m mask := ⟨_, rfl⟩
    obtain ⟨cv, ecv⟩ := hcv
    have hvv : ∃ vv : Nat → Nat, vv = fun t => wt q t + bst q V d (mask ||| 2 ^ t) := ⟨_, rfl⟩
    obtain ⟨vv, evv⟩ := hvv
    have ebs : bst q V (d + 1) mask = mxo (bst q V d mask) cv vv q.2.1 := by rw [bst_s, ← em, ecv, evv]
    have ech : bch q V d mask = chs (bst q V d mask) cv vv q.2.1 := by unfold bch; rw [← em, ecv, evv]
    have eph : ∀ i, pth q V (d + 1) mask i = if i = m then oT (chs (bst q V d mask) cv vv q.2.1) else pth q V d (mk2 mask (chs (bst q V d mask) cv vv q.2.1)) i := fun i => by
      show (if i = q.1 - (d + 1) then oT (bch q V d mask) else pth q V d (mk2 mask (bch q V d mask)) i) = _
      rw [← em, ech]
    have st0 : mOut q M M4 m b (x + bst q V d mask) (fun i => if i = m then -2 else pth q V d mask i) := by
      refine ⟨a3.1, fun i hi => ?_⟩
      rw [a3.2 i hi]
      dsimp only
      by_cases hb' : b ≤ x + bst q V d mask
      · rw [if_pos hb', if_pos hb']
        by_cases i1 : i < m
        · rw [if_pos (by omega), if_pos i1, zI_of (by omega)]
        · rw [if_neg i1]
          by_cases i2 : i = m
          · rw [if_pos (by omega), if_pos i2, i2, zI_at]
          · rw [if_neg (by omega), if_neg i2]
      · rw [if_neg hb', if_neg hb', zI_of (by omega)]
    have rd : ∀ {N : zM}, FrA m M N → N.1 100 1 = nI q.2.1 ∧ N.1 125 m = V 4 m ∧ N.1 104 m = q.2.2.2.1 4 m ∧ ∀ t, t < q.2.1 → N.1 130 t = V 8 t ∧ N.1 107 t = q.2.2.2.1 7 t ∧ N.1 106 t = nI (wt q t) := fun {N} hN => by
      have hAN := hA.fr hq hN
      have v4 := hAN.2.mm (c := 4) (by omega) (by omega) (by omega) (show m < q.1 by omega)
      rw [Nat.mul_zero, Nat.zero_add] at v4
      refine ⟨hAN.1.1.2.1.1, v4, hAN.1.nn (c := 4) (by omega) (by omega) (by omega), fun t ht => ?_⟩
      have v8 := hAN.2.tt (c := 8) (by omega) (by omega) ht
      rw [Nat.mul_zero, Nat.zero_add] at v8
      exact ⟨v8, hAN.1.tt (c := 7) (by omega) (by omega) ht, by rw [← (wt_le hq ht).2]; exact hAN.1.tt (c := 6) (by omega) (by omega) ht⟩
    by_cases hout : V 4 m = 2
    · have hno : ∀ i, cv i = false := fun i => by rw [ecv]; unfold cn; rw [hout]; cases mask.testBit i <;> rfl
      obtain ⟨n1, n2⟩ := chs_none (b0 := bst q V d mask) (v := vv) hno q.2.1
      rw [n1] at eph
      rw [n2] at ebs
      refine ⟨M4, ?_, f4, ?_⟩
      · show gX10_matches_L74 (gGA f') (nI m) (nI mask) (nI x) (zfix _ _) (0, M4) = _
        unfold gX10_matches_L74
        dsimp only
        rw [cl1, (rd f4).1]
        by_cases ht : nI q.2.1 ≤ 0
        · rw [if_pos ht]
        · rw [if_neg ht, zg_true (zok_nI (show m < 138 by omega) (by omega)), nI_cl (by omega), (rd f4).2.1, if_pos hout]
      · rw [ebs]
        exact ⟨st0.1, fun i hi => by rw [st0.2 i hi, eph]; rfl⟩
    · obtain ⟨s', N', ⟨Mk, rfl, g1, g2⟩, e⟩ := zfix_inv (B := gX10_matches_L74 (gGA f') (nI m) (nI mask) (nI x)) (fun t s => ∃ Mt : zM, s = (nI t, Mt) ∧ FrA m M Mt ∧ mOut q M Mt m b (x + mxo (bst q V d mask) cv vv t) (fun i => if i = m then oT (chs (bst q V d mask) cv vv t) else pth q V d (mk2 mask (chs (bst q V d mask) cv vv t)) i)) q.2.1 (fun t ht s hs => by
          obtain ⟨Mt, rfl, g1, g2⟩ := hs
          obtain ⟨r1, r2, r3, r4⟩ := rd g1
          obtain ⟨r5, r6, r7⟩ := r4 t ht
          have skip : cv t = false → mOut q M Mt m b (x + mxo (bst q V d mask) cv vv (t + 1)) (fun i => if i = m then oT (chs (bst q V d mask) cv vv (t + 1)) else pth q V d (mk2 mask (chs (bst q V d mask) cv vv (t + 1))) i) := fun hc => by
            rw [mxo_s, chs_s, hc]
            simpa using g2
          have q138 : ∀ e : Option zM, zg (zok (nI m) 138) e = e := fun e => zg_true (zok_nI (show m < 138 by omega) (by omega))
          have q12 : ∀ e : Option zM, zg (zok (nI m) 12) e = e := fun e => zg_true (zok_nI (show m < 12 by omega) (by omega))
          have q6 : ∀ e : Option zM, zg (zok (nI m) 6) e = e := fun e => zg_true (zok_nI (show m < 6 by omega) (by omega))
          have q184 : ∀ e : Option zM, zg (zok (nI t) 184) e = e := fun e => zg_true (zok_nI (show t < 184 by omega) (by omega))
          have q16 : ∀ e : Option zM, zg (zok (nI t) 16) e = e := fun e => zg_true (zok_nI (show t < 16 by omega) (by omega))
          have body : ∀ rc, gX10_matches_L74 (gGA f') (nI m) (nI mask) (nI x) rc (nI t, Mt) = (if (if mask.testBit t then (1 : Int32) else 0) = 1 then rc (nI (t + 1), Mt) else (if V 8 t = 0 then (if q.2.2.2.1 7 t ≤ q.2.2.2.1 4 m then zcV (gGA f' (nI (m + 1)) (nI (mask ||| 2 ^ t)) (nI (x + wt q t)) (zI Mt 133 m (nI t))) (fun M14_ => rc (nI (t + 1), M14_)) else rc (nI (t + 1), Mt)) else rc (nI (t + 1), Mt))) := fun rc => by
            unfold gX10_matches_L74
            dsimp only
            rw [cl1, r1, if_neg (nI_ge ht (by omega))]
            simp only [q138, q12, q6, q184, q16]
            rw [nI_cl (show m < 2 ^ 31 by omega), r2, if_neg hout, (bit_at (show mask < 256 by omega) (show t < 8 by omega)).2, (bit_at (show mask < 256 by omega) (show t < 8 by omega)).1, nI_cl (show t < 2 ^ 31 by omega), r5, r6, r3, zlet_eq, zI_of (show ¬ (106 = 133 ∧ t = m) by omega), r7, nI_add, nI_1, nI_1]
          cases hbit : mask.testBit t with
          | true =>
            refine ⟨(nI (t + 1), Mt), ⟨Mt, rfl, g1, skip (by rw [ecv]; unfold cn; rw [hbit]; rfl)⟩, fun rc => ?_⟩
            rw [body, hbit, if_pos rfl, if_pos rfl]
          | false =>
            by_cases h8 : V 8 t = 0
            · by_cases hsk : q.2.2.2.1 7 t ≤ q.2.2.2.1 4 m
              · have hct : cv t = true := by rw [ecv]; unfold cn; rw [hbit, beq_eq_false_iff_ne.mpr hout, h8, decide_eq_true hsk]; rfl
                have hle : mxo (bst q V d mask) cv vv t ≤ 99 * (d + 1) := mxo_le (by have := bst_le (V := V) hq d mask; omega) _ (fun i hi => by
                  have c1 := bst_le (V := V) hq d (mask ||| 2 ^ i)
                  have c2 := (wt_le hq (show i < q.2.1 by omega)).1
                  rw [evv]
                  show wt q i + bst q V d (mask ||| 2 ^ i) ≤ _
                  omega)
                have f5 : FrA m Mt (zI Mt 133 m (nI t)) := FrA.put (Nat.le_refl _)
                have hw := (wt_le hq ht).1
                obtain ⟨M6, k1, k2, k3⟩ := ih f' (mask ||| 2 ^ t) (x + wt q t) (max b (x + mxo (bst q V d mask) cv vv t + 1)) (zI Mt 133 m (nI t)) (by omega) (by omega) (or_lt hmask ht) (by omega) (Nat.max_le.mpr ⟨hb, by omega⟩) ((hA.fr hq g1).fr hq f5) (by rw [zI_of (by omega)]; exact g2.1)
                have ev : x + wt q t + bst q V d (mask ||| 2 ^ t) = x + vv t := by
                  rw [evv]
                  show x + wt q t + bst q V d (mask ||| 2 ^ t) = x + (wt q t + bst q V d (mask ||| 2 ^ t))
                  omega
                rw [ev] at k3
                refine ⟨(nI (t + 1), M6), ⟨M6, rfl, g1.tr (f5.tr (k2.le (by omega))), ?_⟩, fun rc => ?_⟩
                · rw [mxo_s, chs_s, hct, if_pos rfl, Bool.true_and]
                  refine ⟨?_, fun i hi => ?_⟩
                  · rw [k3.1]
                    congr 2
                    omega
                  · rw [k3.2 i hi]
                    dsimp only
                    by_cases hv : mxo (bst q V d mask) cv vv t < vv t
                    · rw [decide_eq_true hv, if_pos rfl, Nat.max_eq_right (show mxo (bst q V d mask) cv vv t ≤ vv t by omega)]
                      by_cases hb2 : b ≤ x + vv t
                      · rw [if_pos (Nat.max_le.mpr ⟨hb2, by omega⟩), if_pos hb2]
                        by_cases i1 : i < m
                        · rw [if_pos (by omega), if_pos i1, zI_of (by omega), g1.2.2 i i1]
                        · rw [if_neg i1]
                          by_cases i2 : i = m
                          · rw [if_pos (by omega), if_pos i2, i2, zI_at]; rfl
                          · rw [if_neg (by omega), if_neg i2]; rfl
                      · rw [if_neg (fun w => hb2 (Nat.le_trans (Nat.le_max_left _ _) w)), if_neg hb2, zI_of (by omega), g2.2 i hi, if_neg (by omega)]
                    · rw [decide_eq_false hv, if_neg (show ¬ (false = true) by decide), Nat.max_eq_left (show vv t ≤ mxo (bst q V d mask) cv vv t by omega), if_neg (fun w => by have := Nat.le_trans (Nat.le_max_right _ _) w; omega), zI_of (by omega)]
                      exact g2.2 i hi
                · rw [body, hbit, if_neg (by decide), if_pos h8, if_pos hsk, zcV_some k1]
              · refine ⟨(nI (t + 1), Mt), ⟨Mt, rfl, g1, skip (by rw [ecv]; unfold cn; rw [decide_eq_false hsk]; simp)⟩, fun rc => ?_⟩
                rw [body, hbit, if_neg (by decide), if_pos h8, if_neg hsk]
            · refine ⟨(nI (t + 1), Mt), ⟨Mt, rfl, g1, skip (by rw [ecv]; unfold cn; rw [beq_eq_false_iff_ne.mpr h8]; simp)⟩, fun rc => ?_⟩
              rw [body, hbit, if_neg (by decide), if_neg h8]) q.2.1 0 zFu (0, M4) (by omega) (by unfold zFu; omega) ⟨M4, by rw [nI_0], f4, st0⟩
      refine ⟨Mk, ?_, g1, ?_⟩
      · rw [e]
        unfold gX10_matches_L74
        dsimp only
        rw [cl1, (rd g1).1, if_pos (nI_le (Nat.le_refl _) (by omega))]
      · rw [ebs]
        exact ⟨g2.1, fun i hi => by rw [g2.2 i hi, eph]⟩
theorem k_match {M : zM} (h : Rel M) (x : Int32) : ∃ r M1 M2, gX9_match x M = some (r, M1) ∧ gX10_match x M1 = some (r, M2) ∧ Rel M2 := by
  have h' := h
  obtain ⟨q, V, I, D, S, B, F, hA, hC, hM⟩ := h
  have hq := hA.1
  have hn := hq.1.1
  unfold gX9_match
  by_cases h1 : x < 0
  · rw [if_pos h1]
    refine ⟨-1, M, zI M 98 0 0, rfl, ?_, h'.z⟩
    unfold gX10_match
    rw [zlet_eq, if_pos h1]
  · rw [if_neg h1]
    by_cases h2 : x ≤ 6
    · rw [if_pos h2]
      obtain ⟨k, hk, rfl⟩ := cnt_of (n := 6) (x := x) (lit := 6) (by decide) (by omega) h1 h2
      have hC0 := hC
      obtain ⟨p, c1, c2, c3, c4⟩ := hC0
      rw [zcIM_some (c_solve ⟨c1.2.1, c2, c3⟩ hq)]
      have hM1 : ∃ M1, M1 = rset (rset M 96 (tb q V (M.1 96) 0 (2 ^ q.2.1))) 97 (cC q V (M.1 97) 6) := ⟨_, rfl⟩
      obtain ⟨M1, eM1⟩ := hM1
      rw [← eM1]
      have fr : ∀ a i, a ≠ 96 → a ≠ 97 → M1.1 a i = M.1 a i := fun a i z1 z2 => by rw [eM1, rset_of z2, rset_of z1]
      have hC1 : CR M1 q V I D S B F := hC.mono (fun a i d _ => fr a i (by unfold dC at d; omega) (by unfold dC at d; omega)) (fun a _ _ => by rw [eM1]; rfl)
      have hMR1 : MR M1 q V I D S B F := hM.mono (fun a i d => fr a i (by unfold dM at d; omega) (by unfold dM at d; omega))
      have hz := hMR1.z (y := 0)
      have hA3 : mA (zI (zI M1 98 0 0) 98 57 (-1)) q V := ⟨hz.2.1.mono (fun a i z1 z2 => zI_of (by omega)), hz.2.2.1.mono hn hq.1.2.1 (by omega) (fun a i d => zI_of (by unfold dM at d; omega))⟩
      obtain ⟨M5, e1, e2, e3⟩ := m_match hq q.1 8 0 0 0 (zI (zI M1 98 0 0) 98 57 (-1)) (Nat.le_refl _) (by omega) (Nat.pow_pos (by omega)) (by omega) (by omega) hA3 (by rw [zI_at]; decide)
      have e57 : M5.1 98 57 = nI (bst q V q.1 0) := by rw [e3.1, Nat.zero_max, Nat.zero_add, nI_dec]
      have fr5 : ∀ a i, ¬ (a = 98 ∧ (i = 57 ∨ i = 0)) → a ≠ 133 → a ≠ 134 → M5.1 a i = M1.1 a i := fun a i z1 z2 z3 => by rw [e2.2.1 a i (by omega) z2 z3, zI_of (by omega), zI_of (by omega)]
      have hC5 : CR M5 q V I D S B F := hC1.hi (fun a i z => fr5 a i (by omega) (by omega) (by omega)) (by rw [e2.1]; rfl)
      have hM5 : MR M5 q V I D S B F := hMR1.mono (fun a i d => fr5 a i (by unfold dM at d; omega) (by unfold dM at d; omega) (by unfold dM at d; omega))
      refine ⟨if nI k = 6 then nI (bst q V q.1 0) else pk q V k, M1, M5, ?_, ?_, q, V, I, D, S, B, F, hA, hC5, hM5⟩
      · by_cases k6 : nI k = 6
        · rw [if_pos k6, if_pos k6]
        · have : k < 6 := by
            rcases Nat.lt_or_ge k 6 with w | w
            · exact w
            · exact absurd (by rw [show k = 6 by omega]; decide) k6
          rw [if_neg k6, if_neg k6, zg_true (zok_nI this (by omega)), nI_cl (by omega), eM1, rset_at]
          unfold cC
          rw [if_pos this]
      · unfold gX10_match
        rw [zlet_eq, if_neg h1, if_pos h2, zlet_eq, zcV_some (by rw [Nat.sub_self] at e1; exact e1), e57]
        by_cases k6 : nI k = 6
        · rw [if_pos k6, if_pos k6]
        · have k6' : k < 6 := by
            rcases Nat.lt_or_ge k 6 with w | w
            · exact w
            · exact absurd (by rw [show k = 6 by omega]; decide) k6
          rw [if_neg k6, if_neg k6, cl0, hM5.2.1.1.1.1]
          by_cases kn : q.1 ≤ k
          · rw [if_pos (nI_le kn (by omega))]
            unfold pk
            rw [if_neg (by omega)]
          · rw [if_neg (nI_ge (by omega) (by omega)), zg_true (zok_nI k6' (by omega)), nI_cl (by omega), e3.2 k (by omega), if_pos (by omega), if_neg (by omega)]
            have := pth_pk (q := q) (V := V) q.1 0 (by omega) k (by omega) (by omega)
            rw [show pm q V 0 = 0 from rfl] at this
            rw [this]
    · rw [if_neg h2]
      refine ⟨-1, M, zI M 98 0 0, rfl, ?_, h'.z⟩
      unfold gX10_match
      rw [zlet_eq, if_neg h1, if_neg h2]
