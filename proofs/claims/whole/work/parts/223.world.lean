/-- a loop with an invariant -/
theorem zfix_inv {σ ρ : Type} {B : (σ → Option ρ) → σ → Option ρ} (I : Nat → σ → Prop) (n : Nat) (hs : ∀ k, k < n → ∀ s, I k s → ∃ s', I (k + 1) s' ∧ ∀ rc, B rc s = rc s') : ∀ (d j N : Nat) (s : σ), j + d = n → d < N → I j s → ∃ s' N', I n s' ∧ zfix N B s = B (zfix N' B) s' := by
  intro d
  induction d with
  | zero =>
    intro j N s hj hN hI
    cases N with
    | zero => omega
    | succ N =>
      have : j = n := by omega
      subst this
      exact ⟨s, N, hI, rfl⟩
  | succ d ih =>
    intro j N s hj hN hI
    cases N with
    | zero => omega
    | succ N =>
      obtain ⟨s', h1, h2⟩ := hs j (by omega) s hI
      rw [zfix_succ, h2]
      exact ih (j + 1) N s' (by omega) (by omega) h1
/-- how a MAN goes on inside -/
def sMove1 (P V1 : AV) (LW : Nat → Option (List (Int32 × Int32))) (wy : Int32) (m t : Nat) : AV :=
  let h := sHurt P V1 LW wy m t
  let V2 := vset V1 0 14 h.2
  if h.1 = true then (if (sLeave V2 m 2) 8 t = 1 then vset (sLeave V2 m 2) 8 t 3 else sLeave V2 m 2)
  else if V2 6 m = P 7 t then (if V2 8 t = 0 then vset V2 8 t 1 else V2)
  else if V2 6 m = 2 * P 7 t then (if (sLeave V2 m 0) 8 t = 1 then sSave P (sLeave V2 m 0) LW m t else sLeave V2 m 0)
  else V2
def sMove (P V : AV) (LW : Nat → Option (List (Int32 × Int32))) (wy : Int32) (m : Nat) : AV :=
  if V 4 m = 1 then sMove1 P (vset V 6 m (V 6 m + 1)) LW wy m (V 5 m).toNatClampNeg else V
/-- who is IN goes for a THING -/
def vGo (V : AV) (n T : Nat) : Prop := ∀ m, m < n → V 4 m = 1 → ∃ t, t < T ∧ V 5 m = nI t
def vRk (V : AV) (n : Nat) : Prop := ∀ k, k < n → ∃ m, m < n ∧ V 1 k = nI m
theorem b2i_0 {b : Bool} : b2i b = 0 ↔ b = false := by cases b <;> decide
set_option maxHeartbeats 1000000 in
theorem s_move {M : zM} {w p n T L m : Nat} {wy : Int32} (hW : WC M w p n T L) (hm : m < n) (hg : vGo (vC n T M w) n T) :
    ∃ M', gX8_moveMan w (nI m) wy M = some M' ∧ FrW w p M M' ∧ vC n T M' w = sMove (pC n T L M p) (vC n T M w) (lawC M p) wy m ∧ M'.1 w 15 = M.1 w 15 := by
  have hW0 := hW
  obtain ⟨h1, h2, hp, hn, hT, hL, hl⟩ := hW
  have hm6 : m < 6 := by omega
  have e4 : M.1 (w + 4) m = vC n T M w 4 m := (vC_at (vd (by omega) (by omega) hm)).symm
  have e5 : M.1 (w + 5) m = vC n T M w 5 m := (vC_at (vd (by omega) (by omega) hm)).symm
  have e6 : M.1 (w + 6) m = vC n T M w 6 m := (vC_at (vd (by omega) (by omega) hm)).symm
  unfold gX8_moveMan sMove
  rw [if_neg (nI_pos (by omega)), nI_lit6, if_neg (nI_ge hm6 (by omega)), zg_true (zok_nI hm6 (by omega)), nI_cl (by omega), e4]
  by_cases h4 : vC n T M w 4 m = 1
  · obtain ⟨t, ht, hv5⟩ := hg m hm h4
    have ht8 : t < 8 := by omega
    rw [if_pos h4, if_pos h4, zg_true (zok_nI hm6 (by omega)), zlet_eq, e5, hv5, if_neg (nI_pos (by omega)), nI_lit8, if_pos (nI_lt ht8 (by omega)), zg_true (zok_nI hm6 (by omega)), zg_true (zok_nI hm6 (by omega)), zlet_eq, e6, nI_cl (show t < 2 ^ 31 by omega)]
    have hfr : FrW w p M (zI M (w + 6) m (vC n T M w 6 m + 1)) := FrW.put (by omega)
    have hv : vC n T (zI M (w + 6) m (vC n T M w 6 m + 1)) w = vset (vC n T M w) 6 m (vC n T M w 6 m + 1) := vC_put (vd (by omega) (by omega) hm)
    have h15 : (zI M (w + 6) m (vC n T M w 6 m + 1)).1 w 15 = M.1 w 15 := zI_of (by omega)
    generalize zI M (w + 6) m (vC n T M w 6 m + 1) = M7 at hfr hv h15 ⊢
    generalize vset (vC n T M w) 6 m (vC n T M w 6 m + 1) = V1 at hv ⊢
    have hW7 := hW0.fr hfr
    obtain ⟨M1, f1, f2, f3, f4⟩ := s_hurt (wy := wy) hW7 hm ht
    rw [pC_fr hW0 hfr, lawC_fr hW0 hfr, hv] at f1 f3
    rw [zcIM_some f1]
    have hfr1 := hfr.tr f2
    have hW1 := hW0.fr hfr1
    have hp1 : M1.2.2 w 0 = some p := hW1.2.1
    unfold sMove1
    dsimp only
    generalize hh : sHurt (pC n T L M p) V1 (lawC M p) wy m t = hu at f1 f3 ⊢
    obtain ⟨hb, hx⟩ := hu
    dsimp only at f1 f3 ⊢
    have a6 : M1.1 (w + 6) m = vset V1 0 14 hx 6 m := by rw [← f3]; exact (vC_at (vd (by omega) (by omega) hm)).symm
    have a8 : M1.1 (w + 8) t = vset V1 0 14 hx 8 t := by rw [← f3]; exact (vC_at (vdT (by omega) (by omega) ht)).symm
    have a7 : M1.1 (p + 7) t = pC n T L M p 7 t := by rw [← pC_fr hW0 hfr1]; exact (pC_at (pdT (by omega) (by omega) ht)).symm
    cases hb with
    | true =>
      rw [if_neg (show ¬ b2i true = 0 by decide), if_pos rfl]
      obtain ⟨M2, k1, k2, k3, k4⟩ := s_leave (x := 2) hW1 hm
      rw [f3] at k3
      rw [zcV_some k1, zg_true (zok_nI ht8 (by omega)), zg_true (zok_nI ht8 (by omega)), zlet_eq]
      have c8 : M2.1 (w + 8) t = (sLeave (vset V1 0 14 hx) m 2) 8 t := by rw [← k3]; exact (vC_at (vdT (by omega) (by omega) ht)).symm
      rw [c8]
      by_cases hz : (sLeave (vset V1 0 14 hx) m 2) 8 t = 1
      · rw [if_pos hz, if_pos hz]
        exact ⟨_, rfl, (hfr1.tr k2).tr (FrW.put (by omega)), by rw [vC_put (vdT (by omega) (by omega) ht), k3], by rw [zI_of (by omega), k4, f4, h15]⟩
      · rw [if_neg hz, if_neg hz]
        exact ⟨M2, rfl, hfr1.tr k2, k3, by rw [k4, f4, h15]⟩
    | false =>
      rw [if_pos (show b2i false = 0 by decide), if_neg (show ¬ false = true by decide), zg_true (zok_nI hm6 (by omega)), zgP_some hp1 hp, zg_true (zok_nI ht8 (by omega)), a6, a7]
      by_cases hd : vset V1 0 14 hx 6 m = pC n T L M p 7 t
      · rw [if_pos hd, if_pos hd, zg_true (zok_nI ht8 (by omega)), a8]
        by_cases hz : vset V1 0 14 hx 8 t = 0
        · rw [if_pos hz, if_pos hz, zg_true (zok_nI ht8 (by omega)), zlet_eq]
          exact ⟨_, rfl, hfr1.tr (FrW.put (by omega)), by rw [vC_put (vdT (by omega) (by omega) ht), f3], by rw [zI_of (by omega), f4, h15]⟩
        · rw [if_neg hz, if_neg hz]
          exact ⟨M1, rfl, hfr1, f3, by rw [f4, h15]⟩
      · rw [if_neg hd, if_neg hd, zg_true (zok_nI hm6 (by omega)), zgP_some hp1 hp, zg_true (zok_nI ht8 (by omega)), a7]
        by_cases hd2 : vset V1 0 14 hx 6 m = 2 * pC n T L M p 7 t
        · rw [if_pos hd2, if_pos hd2]
          obtain ⟨M2, k1, k2, k3, k4⟩ := s_leave (x := 0) hW1 hm
          rw [f3] at k3
          rw [zcV_some k1, zg_true (zok_nI ht8 (by omega))]
          have c8 : M2.1 (w + 8) t = (sLeave (vset V1 0 14 hx) m 0) 8 t := by rw [← k3]; exact (vC_at (vdT (by omega) (by omega) ht)).symm
          rw [c8]
          by_cases hz : (sLeave (vset V1 0 14 hx) m 0) 8 t = 1
          · rw [if_pos hz, if_pos hz]
            have hfr2 := hfr1.tr k2
            obtain ⟨M3, q1, q2, q3, q4⟩ := s_save (hW0.fr hfr2) hm ht
            rw [pC_fr hW0 hfr2, lawC_fr hW0 hfr2, k3] at q3
            rw [zcV_some q1]
            exact ⟨M3, rfl, hfr2.tr q2, q3, by rw [q4, k4, f4, h15]⟩
          · rw [if_neg hz, if_neg hz]
            exact ⟨M2, rfl, hfr1.tr k2, k3, by rw [k4, f4, h15]⟩
        · rw [if_neg hd2, if_neg hd2]
          exact ⟨M1, rfl, hfr1, f3, by rw [f4, h15]⟩
  · rw [if_neg h4, if_neg h4]
    exact ⟨M, rfl, FrW.rf, rfl, rfl⟩
/-- who goes in -/
def sSend (P V : AV) (LW : Nat → Option (List (Int32 × Int32))) (n T m : Nat) (wi : Int32) : AV × Int32 :=
  if V 4 m = 0 then (if V 7 m = 0 then (match sFree V n T with
    | none => (V, wi)
    | some t => if sDares P V LW m t 0 = true then (vset (vset (vset V 4 m 1) 5 m (nI t)) 6 m 0, wi ||| ((1 : Int32) <<< (nI m &&& 31))) else (V, wi)) else (V, wi)) else (V, wi)
theorem s_send {M : zM} {w p n T L m : Nat} (hW : WC M w p n T L) (hm : m < n) :
    ∃ M', gX8_sendMan w (nI m) M = some M' ∧ FrW w p M M' ∧ vC n T M' w = (sSend (pC n T L M p) (vC n T M w) (lawC M p) n T m (M.1 w 15)).1 ∧ M'.1 w 15 = (sSend (pC n T L M p) (vC n T M w) (lawC M p) n T m (M.1 w 15)).2 := by
  have hW0 := hW
  obtain ⟨h1, h2, hp, hn, hT, hL, hl⟩ := hW
  have hm6 : m < 6 := by omega
  have e4 : M.1 (w + 4) m = vC n T M w 4 m := (vC_at (vd (by omega) (by omega) hm)).symm
  have e7 : M.1 (w + 7) m = vC n T M w 7 m := (vC_at (vd (by omega) (by omega) hm)).symm
  unfold gX8_sendMan sSend
  rw [if_neg (nI_pos (by omega)), nI_lit6, if_neg (nI_ge hm6 (by omega)), zg_true (zok_nI hm6 (by omega)), nI_cl (by omega), e4]
  by_cases h4 : vC n T M w 4 m = 0
  · rw [if_pos h4, if_pos h4, zg_true (zok_nI hm6 (by omega)), e7]
    by_cases h7 : vC n T M w 7 m = 0
    · rw [if_pos h7, if_pos h7, zcI_some (s_free hW0)]
      cases hf : sFree (vC n T M w) n T with
      | none =>
        rw [if_pos (show oT none < 0 by decide)]
        exact ⟨M, rfl, FrW.rf, rfl, rfl⟩
      | some t =>
        have ht := sFree_lt hf
        obtain ⟨M1, f1, f2⟩ := s_dares (more := 0) hW0 hm ht
        show ∃ M', (if nI t < 0 then _ else zcIM (gX8_dares w (nI m) (nI t) 0 M) _) = _ ∧ _
        rw [if_neg (nI_pos (by omega)), zcIM_some f1]
        by_cases hd : sDares (pC n T L M p) (vC n T M w) (lawC M p) m t 0 = true
        · rw [if_neg (by rw [hd]; decide)]
          simp only [hd, if_true]
          rw [zg_true (zok_nI hm6 (by omega)), zlet_eq, zg_true (zok_nI hm6 (by omega)), zlet_eq, zg_true (zok_nI hm6 (by omega)), zlet_eq, zlet_eq]
          have e15 : (zI (zI (zI M1 (w + 4) m 1) (w + 5) m (nI t)) (w + 6) m 0).1 w 15 = M.1 w 15 := by rw [zI_of (by omega), zI_of (by omega), zI_of (by omega), f2.1]
          rw [show oT (some t) = nI t from rfl, e15]
          refine ⟨_, rfl, f2.W.tr ((FrW.put (by omega)).tr ((FrW.put (by omega)).tr ((FrW.put (by omega)).tr FrW.put0))), ?_, zI_at⟩
          rw [vC_put15, vC_put (vd (by omega) (by omega) hm), vC_put (vd (by omega) (by omega) hm), vC_put (vd (by omega) (by omega) hm), vC_eq f2.1]
        · rw [if_pos (by rw [b2i_0]; simpa using hd)]
          simp only [hd]
          exact ⟨M1, rfl, f2.W, vC_eq f2.1, by rw [f2.1]; rfl⟩
    · rw [if_neg h7, if_neg h7]
      exact ⟨M, rfl, FrW.rf, rfl, rfl⟩
  · rw [if_neg h4, if_neg h4]
    exact ⟨M, rfl, FrW.rf, rfl, rfl⟩
