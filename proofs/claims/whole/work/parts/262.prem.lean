/-- a search with an invariant -/
theorem zfix_seekF {σ ρ : Type} {B : (σ → Option ρ) → σ → Option ρ} (I : Nat → σ → Prop) (P : Nat → Bool) (Q1 : Nat → Option ρ → Prop) (Q0 : Option ρ → Prop) (n : Nat)
    (hs : ∀ k, k < n → P k = false → ∀ s, I k s → ∃ s', I (k + 1) s' ∧ ∀ rc, B rc s = rc s') (hh : ∀ k, k < n → P k = true → ∀ s, I k s → ∃ r, Q1 k r ∧ ∀ rc, B rc s = r) (he : ∀ s, I n s → ∃ r, Q0 r ∧ ∀ rc, B rc s = r) :
    ∀ (d j N : Nat) (s : σ), j + d = n → d < N → I j s → ∃ r, zfix N B s = r ∧ (match ffstF P j d with
      | some k => Q1 k r
      | none => Q0 r) := by
  intro d
  induction d with
  | zero =>
    intro j N s hj hN hI
    cases N with
    | zero => omega
    | succ N =>
      have : j = n := by omega
      subst this
      obtain ⟨r, h1, h2⟩ := he s hI
      exact ⟨r, by rw [zfix_succ, h2], h1⟩
  | succ d ih =>
    intro j N s hj hN hI
    cases N with
    | zero => omega
    | succ N =>
      cases hp : P j with
      | false =>
        obtain ⟨s', h1, h2⟩ := hs j (by omega) hp s hI
        obtain ⟨r, g1, g2⟩ := ih (j + 1) N s' (by omega) (by omega) h1
        refine ⟨r, by rw [zfix_succ, h2]; exact g1, ?_⟩
        have e : ffstF P j (d + 1) = ffstF P (j + 1) d := by show (if P j then some j else ffstF P (j + 1) d) = _; rw [hp]; rfl
        rw [e]
        exact g2
      | true =>
        obtain ⟨r, h1, h2⟩ := hh j (by omega) hp s hI
        refine ⟨r, by rw [zfix_succ, h2], ?_⟩
        have e : ffstF P j (d + 1) = some j := by show (if P j then some j else ffstF P (j + 1) d) = _; rw [hp]; rfl
        rw [e]
        exact h1
theorem zfix_seek {σ ρ : Type} {B : (σ → Option ρ) → σ → Option ρ} (I : Nat → σ → Prop) (P : Nat → Bool) (Q1 : Nat → Option ρ → Prop) (Q0 : Option ρ → Prop) (n : Nat) {s0 : σ} (h0 : I 0 s0) (hn : n < zFu)
    (hs : ∀ k, k < n → P k = false → ∀ s, I k s → ∃ s', I (k + 1) s' ∧ ∀ rc, B rc s = rc s') (hh : ∀ k, k < n → P k = true → ∀ s, I k s → ∃ r, Q1 k r ∧ ∀ rc, B rc s = r) (he : ∀ s, I n s → ∃ r, Q0 r ∧ ∀ rc, B rc s = r) :
    ∃ r, zfix zFu B s0 = r ∧ (match ffst P n with
      | some k => Q1 k r
      | none => Q0 r) := zfix_seekF I P Q1 Q0 n hs hh he n 0 zFu s0 (by omega) hn h0
/-! premiums -/
def sPrem (P V : AV) (LW : LWt) (m : Nat) (o : Option Nat) : Int32 := match o with
  | none => -2
  | some t => if V 4 m = 0 then oT (ffst (fun k => sDares P V LW m t (nI k)) 201) else -2
theorem FrL.rf {p : Nat} {M : zM} : FrL p M M := ⟨rfl, rfl, fun _ _ _ => rfl⟩
theorem FrL.tr {p : Nat} {M M1 M2 : zM} (h : FrL p M M1) (h2 : FrL p M1 M2) : FrL p M M2 := ⟨by rw [h2.1, h.1], by rw [h2.2.1, h.2.1], fun a q1 q2 => by rw [h2.2.2 a q1 q2, h.2.2 a q1 q2]⟩
theorem b2i_ne {b : Bool} : b2i b = 0 ↔ b = false := by cases b <;> decide
theorem s_prem {M : zM} {p n T L m : Nat} {o : Option Nat} (hW : WC M 55 p n T L) (hm : m < n) (ho : ∀ t, o = some t → t < T) :
    ∃ M', gX9_premiumOf (nI m) (oT o) M = some (sPrem (pC n T L M p) (vC n T M 55) (lawC M p) m o, M') ∧ FrL p M M' := by
  have hn := hW.2.2.2.1
  have hT := hW.2.2.2.2.1
  unfold gX9_premiumOf sPrem
  cases o with
  | none => exact ⟨M, by rw [if_pos (by decide)], FrL.rf⟩
  | some t =>
    have ht := ho t rfl
    have e4 : M.1 59 m = vC n T M 55 4 m := (vC_at (w := 55) (c := 4) (vd (by omega) (by omega) hm)).symm
    dsimp only
    rw [show oT (some t) = nI t from rfl, if_neg (nI_pos (by omega)), zg_true (zok_nI (show m < 6 by omega) (by omega)), nI_cl (by omega), e4]
    by_cases h4 : vC n T M 55 4 m = 0
    · rw [if_pos h4, if_pos h4]
      obtain ⟨r, g1, g2⟩ := zfix_seek (B := gX9_premiumOf_L21 (nI m) (nI t)) (s0 := (0, M)) (fun k (s : Int32 × zM) => s.1 = nI k ∧ FrL p M s.2) (fun k => sDares (pC n T L M p) (vC n T M 55) (lawC M p) m t (nI k)) (fun k r => ∃ M', r = some (nI k, M') ∧ FrL p M M') (fun r => ∃ M', r = some (-2, M') ∧ FrL p M M') 201 ⟨nI_0.symm, FrL.rf⟩ (by unfold zFu; omega) (by
        intro k hk hp s ⟨q1, q2⟩
        obtain ⟨i, Mk⟩ := s
        dsimp only at q1 q2
        subst q1
        have hWk := hW.fr q2.W
        obtain ⟨M1, d1, d2⟩ := s_dares (more := nI k) hWk hm ht
        rw [pC_fr hW q2.W, lawC_fr hW q2.W, vC_eq q2.1, hp] at d1
        refine ⟨(nI (k + 1), M1), ⟨rfl, q2.tr d2⟩, fun rc => ?_⟩
        unfold gX9_premiumOf_L21
        dsimp only
        rw [show (200 : Int32) = nI 200 by decide, if_neg (by rw [nI_lt_iff (by omega) (by omega)]; omega), zcIM_some d1, if_pos (by decide), nI_1]) (by
        intro k hk hp s ⟨q1, q2⟩
        obtain ⟨i, Mk⟩ := s
        dsimp only at q1 q2
        subst q1
        have hWk := hW.fr q2.W
        obtain ⟨M1, d1, d2⟩ := s_dares (more := nI k) hWk hm ht
        rw [pC_fr hW q2.W, lawC_fr hW q2.W, vC_eq q2.1, hp] at d1
        refine ⟨some (nI k, M1), ⟨M1, rfl, q2.tr d2⟩, fun rc => ?_⟩
        unfold gX9_premiumOf_L21
        dsimp only
        rw [show (200 : Int32) = nI 200 by decide, if_neg (by rw [nI_lt_iff (by omega) (by omega)]; omega), zcIM_some d1, if_neg (by decide)]) (by
        intro s ⟨q1, q2⟩
        obtain ⟨i, Mk⟩ := s
        dsimp only at q1 q2
        subst q1
        refine ⟨some (-2, Mk), ⟨Mk, rfl, q2⟩, fun rc => ?_⟩
        unfold gX9_premiumOf_L21
        dsimp only
        rw [show (200 : Int32) = nI 200 by decide, if_pos (by rw [nI_lt_iff (by omega) (by omega)]; omega)])
      cases hf : ffst (fun k => sDares (pC n T L M p) (vC n T M 55) (lawC M p) m t (nI k)) 201 with
      | none =>
        rw [hf] at g2
        obtain ⟨M', e1, e2⟩ := g2
        exact ⟨M', by rw [g1, e1]; rfl, e2⟩
      | some k =>
        rw [hf] at g2
        obtain ⟨M', e1, e2⟩ := g2
        exact ⟨M', by rw [g1, e1]; rfl, e2⟩
    · rw [if_neg h4, if_neg h4]; exact ⟨M, rfl, FrL.rf⟩
theorem FrS.mc {M M' : zM} {n T L : Nat} (h : MC M n T L) (hf : FrS M M') : MC M' n T L := h.fr (f := 0) hf.M
theorem r_prem {M : zM} {n T L m : Nat} (hM : MC M n T L) (hm : m < n) :
    ∃ M', gX10_premiumOf (nI m) M = some (sPrem (pM n T L M) (vM n T M 0) (lawM M) m (sFree (vM n T M 0) n T), M') ∧ FrS M M' := by
  have hn := hM.1
  have hT := hM.2.1
  unfold gX10_premiumOf sPrem
  rw [show gX10_firstLeft 0 M = gX10_firstLeft (nI 0) M from rfl, zcI_some (r_free hM (by omega))]
  cases ho : sFree (vM n T M 0) n T with
  | none => exact ⟨M, by rw [if_pos (by rfl)], FrS.rf⟩
  | some t =>
    have ht := sFree_lt ho
    have e4 : M.1 125 m = vM n T M 0 4 m := by
      have := vM_m (n := n) (T := T) (M := M) (f := 0) (c := 4) (k := m) (by omega) (by omega) (by omega) hm
      rw [Nat.mul_zero, Nat.zero_add] at this
      exact this.symm
    dsimp only
    rw [show oN (some t) = nI t from rfl, if_neg (nI_ne_m1 (show t < 2 ^ 31 by omega)), zg_true (zok_nI (show m < 138 by omega) (by omega)), nI_cl (by omega), e4]
    by_cases h4 : vM n T M 0 4 m = 0
    · rw [if_pos h4, if_pos h4]
      obtain ⟨r, g1, g2⟩ := zfix_seek (B := gX10_premiumOf_L25 (nI m) (nI t)) (s0 := (0, M)) (fun k (s : Int32 × zM) => s.1 = nI k ∧ FrS M s.2) (fun k => sDares (pM n T L M) (vM n T M 0) (lawM M) m t (nI k)) (fun k r => ∃ M', r = some (nI k, M') ∧ FrS M M') (fun r => ∃ M', r = some (-2, M') ∧ FrS M M') 201 ⟨nI_0.symm, FrS.rf⟩ (by unfold zFu; omega) (by
        intro k hk hp s ⟨q1, q2⟩
        obtain ⟨i, Mk⟩ := s
        dsimp only at q1 q2
        subst q1
        obtain ⟨M1, d1, d2⟩ := r_dares (f := 0) (more := nI k) (FrS.mc hM q2) (by omega) hm ht
        rw [pM_eq q2.1, lawM_fr (f := 0) q2.M, vM_FrS q2, hp] at d1
        refine ⟨(nI (k + 1), M1), ⟨rfl, q2.tr d2⟩, fun rc => ?_⟩
        unfold gX10_premiumOf_L25
        dsimp only
        rw [show (200 : Int32) = nI 200 by decide, if_neg (by rw [nI_lt_iff (by omega) (by omega)]; omega), show gX10_dares 0 (nI m) (nI t) (nI k) Mk = gX10_dares (nI 0) (nI m) (nI t) (nI k) Mk from rfl, zcIM_some d1, if_pos (by decide), nI_1]) (by
        intro k hk hp s ⟨q1, q2⟩
        obtain ⟨i, Mk⟩ := s
        dsimp only at q1 q2
        subst q1
        obtain ⟨M1, d1, d2⟩ := r_dares (f := 0) (more := nI k) (FrS.mc hM q2) (by omega) hm ht
        rw [pM_eq q2.1, lawM_fr (f := 0) q2.M, vM_FrS q2, hp] at d1
        refine ⟨some (nI k, M1), ⟨M1, rfl, q2.tr d2⟩, fun rc => ?_⟩
        unfold gX10_premiumOf_L25
        dsimp only
        rw [show (200 : Int32) = nI 200 by decide, if_neg (by rw [nI_lt_iff (by omega) (by omega)]; omega), show gX10_dares 0 (nI m) (nI t) (nI k) Mk = gX10_dares (nI 0) (nI m) (nI t) (nI k) Mk from rfl, zcIM_some d1, if_neg (by decide)]) (by
        intro s ⟨q1, q2⟩
        obtain ⟨i, Mk⟩ := s
        dsimp only at q1 q2
        subst q1
        refine ⟨some (-2, Mk), ⟨Mk, rfl, q2⟩, fun rc => ?_⟩
        unfold gX10_premiumOf_L25
        dsimp only
        rw [show (200 : Int32) = nI 200 by decide, if_pos (by rw [nI_lt_iff (by omega) (by omega)]; omega)])
      cases hf : ffst (fun k => sDares (pM n T L M) (vM n T M 0) (lawM M) m t (nI k)) 201 with
      | none =>
        rw [hf] at g2
        obtain ⟨M', e1, e2⟩ := g2
        exact ⟨M', by rw [g1, e1]; rfl, e2⟩
      | some k =>
        rw [hf] at g2
        obtain ⟨M', e1, e2⟩ := g2
        exact ⟨M', by rw [g1, e1]; rfl, e2⟩
    · rw [if_neg h4, if_neg h4]; exact ⟨M, rfl, FrS.rf⟩
theorem sPrem_lw {P V : AV} {LW LW' : LWt} {m : Nat} {o : Option Nat} (h : ∀ j, j < 3 → LW j = LW' j) : sPrem P V LW m o = sPrem P V LW' m o := by
  unfold sPrem
  simp only [sDares_lw h]
theorem CR.frL {M M' : zM} {p : Nat} {q : PPt} {V : AV} {I : Option AV} {D : Nat × (Nat → AV)} {S : SSt} {B : Nat × (Nat → Int32)} {F : Int32 × Int32} (h : CR M q V I D S B F) (hf : FrL p M M') : CR M' q V I D S B F := h.mono (fun a i _ _ => by rw [hf.1]) (fun a _ _ => by rw [hf.2.1])
theorem MR.frL {M M' : zM} {p : Nat} {q : PPt} {V : AV} {I : Option AV} {D : Nat × (Nat → AV)} {S : SSt} {B : Nat × (Nat → Int32)} {F : Int32 × Int32} (h : MR M q V I D S B F) (hf : FrL p M M') : MR M' q V I D S B F := h.mono (fun a i _ => by rw [hf.1])
theorem CR.frS {M M' : zM} {q : PPt} {V : AV} {I : Option AV} {D : Nat × (Nat → AV)} {S : SSt} {B : Nat × (Nat → Int32)} {F : Int32 × Int32} (h : CR M q V I D S B F) (hf : FrS M M') : CR M' q V I D S B F := h.mono (fun a i d _ => hf.1 a i (by unfold dC at d; omega)) (fun a _ _ => by rw [hf.2.1])
theorem MR.frS {M M' : zM} {q : PPt} {V : AV} {I : Option AV} {D : Nat × (Nat → AV)} {S : SSt} {B : Nat × (Nat → Int32)} {F : Int32 × Int32} (h : MR M q V I D S B F) (hf : FrS M M') : MR M' q V I D S B F := h.mono (fun a i d => hf.1 a i (by unfold dM at d; omega))
theorem k_premium {M : zM} (h : Rel M) (x : Int32) : ∃ r M1 M2, gX9_premium x M = some (r, M1) ∧ gX10_premium x M1 = some (r, M2) ∧ Rel M2 := by
  have h' := h
  obtain ⟨q, V, I, D, S, B, F, hA, hC, hM⟩ := h
  have hi1 := hC.man x
  have hC' := hC
  obtain ⟨p, c1, c2, c3, c4, c5, c6, c7, c8⟩ := hC
  have hw : WC M 55 p q.1 q.2.1 q.2.2.1 := ⟨Or.inl rfl, c1.2.1, c2.1⟩
  have hn := hA.1.1.1
  rcases isM_cases (n := q.1) (by omega) x with hy | ⟨hy, m, hm, rfl⟩
  · refine ⟨-1, M, zI M 98 0 0, ?_, ?_, h'.z⟩
    · unfold gX9_premium
      rw [zcI_some hi1, hy, if_pos rfl]
    · unfold gX10_premium
      rw [zlet_eq, zcI_some ((hM.z (y := 0)).2.1.man x), hy, if_pos rfl]
  · obtain ⟨M1, a1, a2⟩ := s_prem hw hm (o := sFree V q.1 q.2.1) (fun t ht => sFree_lt ht)
    rw [c2.2.1, show vC q.1 q.2.1 M 55 = V from c3, sPrem_lw c2.2.2.1] at a1
    have hz := (hM.frL a2).z (y := 0)
    have hCz := (hC'.frL a2).z (y := 0)
    obtain ⟨M2, b1, b2⟩ := r_prem hz.2.1.1 hm
    rw [hz.2.1.2.1, show vM q.1 q.2.1 (zI M1 98 0 0) 0 = V from hz.2.2.1, sPrem_lw hz.2.1.2.2.1] at b1
    refine ⟨sPrem q.2.2.2.1 V q.2.2.2.2.1 m (sFree V q.1 q.2.1), M1, M2, ?_, ?_, ⟨q, V, I, D, S, B, F, hA, hCz.frS b2, hz.frS b2⟩⟩
    · unfold gX9_premium
      rw [zcI_some hi1, hy, if_neg (by decide), zcI_some (s_free hw), show vC q.1 q.2.1 M 55 = V from c3, zcIM_some a1]
    · unfold gX10_premium
      rw [zlet_eq, zcI_some (hz.2.1.man (nI m)), hy, if_neg (by decide), zcIM_some b1]
