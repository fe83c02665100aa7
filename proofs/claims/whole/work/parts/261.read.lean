/-! reading what is known -/
theorem cPl.nn {M : zM} {p : Nat} {q : PPt} (h : cPl M p q) {c k : Nat} (h1 : 1 ≤ c) (h2 : c ≤ 4) (hk : k < q.1) : M.1 (p + c) k = q.2.2.2.1 c k := by rw [← h.2.1]; exact (pC_at (pdN h1 h2 hk)).symm
theorem cPl.tt {M : zM} {p : Nat} {q : PPt} (h : cPl M p q) {c k : Nat} (h1 : 5 ≤ c) (h2 : c ≤ 8) (hk : k < q.2.1) : M.1 (p + c) k = q.2.2.2.1 c k := by rw [← h.2.1]; exact (pC_at (pdT h1 h2 hk)).symm
theorem cPl.ss {M : zM} {p : Nat} {q : PPt} (h : cPl M p q) {k : Nat} (hk : k < 5) : M.1 (p + 12) k = q.2.2.2.1 12 k := by rw [← h.2.1]; exact (pC_at (pdS hk)).symm
theorem mPl.nn {M : zM} {q : PPt} (h : mPl M q) {c k : Nat} (h1 : 1 ≤ c) (h2 : c ≤ 4) (hk : k < q.1) : M.1 (100 + c) k = q.2.2.2.1 c k := by
  rw [← h.2.1, pM_at (pdN h1 h2 hk)]
  rcases (show c = 1 ∨ c = 2 ∨ c = 3 ∨ c = 4 by omega) with rfl | rfl | rfl | rfl <;> rfl
theorem mPl.tt {M : zM} {q : PPt} (h : mPl M q) {c k : Nat} (h1 : 5 ≤ c) (h2 : c ≤ 8) (hk : k < q.2.1) : M.1 (100 + c) k = q.2.2.2.1 c k := by
  rw [← h.2.1, pM_at (pdT h1 h2 hk)]
  rcases (show c = 5 ∨ c = 6 ∨ c = 7 ∨ c = 8 by omega) with rfl | rfl | rfl | rfl <;> rfl
theorem mPl.ss {M : zM} {q : PPt} (h : mPl M q) {k : Nat} (hk : k < 5) : M.1 100 (3 + k) = q.2.2.2.1 12 k := by
  rw [← h.2.1, pM_at (pdS hk)]
  rfl
theorem cV.mm {M : zM} {q : PPt} {w : Nat} {V : AV} (h : cV M q w V) {c k : Nat} (h1 : 1 ≤ c) (h2 : c ≤ 7) (hk : k < q.1) : M.1 (w + c) k = V c k := by
  unfold cV at h; rw [← h]; exact (vC_at (vd h1 h2 hk)).symm
theorem cV.tt {M : zM} {q : PPt} {w : Nat} {V : AV} (h : cV M q w V) {c k : Nat} (h1 : 8 ≤ c) (h2 : c ≤ 9) (hk : k < q.2.1) : M.1 (w + c) k = V c k := by
  unfold cV at h; rw [← h]; exact (vC_at (vdT h1 h2 hk)).symm
theorem cV.oo {M : zM} {q : PPt} {w : Nat} {V : AV} (h : cV M q w V) {k : Nat} (h1 : 10 ≤ k) (h2 : k ≤ 14) : M.1 w k = V 0 k := by
  unfold cV at h; rw [← h]; exact (vC_at (c := 0) (by simp [vdim]; omega)).symm
def r0 (k : Nat) : Nat := if k = 10 then 118 else if k = 11 then 120 else if k = 12 then 121 else if k = 13 then 122 else 119
def rm (c : Nat) : Nat := if c = 1 then 129 else 121 + c
theorem mV.oo {M : zM} {q : PPt} {f : Nat} {V : AV} (h : mV M q f V) {k : Nat} (h1 : 10 ≤ k) (h2 : k ≤ 14) : M.1 (r0 k) f = V 0 k := by
  unfold mV at h; rw [← h]; exact (vM_0 h1 h2).symm
theorem mV.mm {M : zM} {q : PPt} {f : Nat} {V : AV} (h : mV M q f V) {c k : Nat} (h1 : 1 ≤ c) (h2 : c ≤ 6) (h5 : c ≠ 5) (hk : k < q.1) : M.1 (rm c) (6 * f + k) = V c k := by
  unfold mV at h; rw [← h]; exact (vM_m h1 h2 h5 hk).symm
theorem mV.m5 {M : zM} {q : PPt} {f : Nat} {V : AV} (h : mV M q f V) {k : Nat} (hk : k < q.1) : gC (M.1 126 (6 * f + k)) = V 5 k := by
  unfold mV at h; rw [← h]; exact (vM_5 hk).symm
theorem mV.m7 {M : zM} {q : PPt} {f : Nat} {V : AV} (h : mV M q f V) (ht : M.1 98 51 ≠ 2) {k : Nat} (hk : k < q.1) : M.1 128 (6 * f + k) = V 7 k := by
  unfold mV at h
  rw [← h, vM_at (vd (by omega) (by omega) hk)]
  unfold vRd
  rw [if_neg (by omega), if_neg (fun z => ht z.2.1)]
  rfl
theorem mV.tt {M : zM} {q : PPt} {f : Nat} {V : AV} (h : mV M q f V) {c k : Nat} (h1 : 8 ≤ c) (h2 : c ≤ 9) (hk : k < q.2.1) : M.1 (122 + c) (8 * f + k) = V c k := by
  unfold mV at h; rw [← h]; exact (vM_t h1 h2 hk).symm
theorem mTr.ne {M : zM} (h : mTr M) : M.1 98 51 ≠ 2 := by rw [h.1]; decide
theorem mV.hd {M : zM} {q : PPt} {f : Nat} {V : AV} (h : mV M q f V) (ht : M.1 98 51 ≠ 2) (hb : vHb V q.1) : vHd M f q.1 := fun m hm => by
  rw [h.m7 ht hm]; exact hb m hm
theorem gC_m2 {x : Int32} (h : gC x = -2) : x = -1 := by
  unfold gC at h
  by_cases h1 : x = -1
  · exact h1
  · rw [if_neg h1] at h
    by_cases h2 : x = -2
    · rw [if_pos h2] at h; exact absurd h (by decide)
    · rw [if_neg h2] at h; exact absurd h h2
/-- the goal of a MAN, as the class and as the reference have it -/
theorem goal_c {q : PPt} {V : AV} (hI : wI q V) {m : Nat} (hm : m < q.1) : ∃ o : Option Nat, V 5 m = oT o ∧ ∀ t, o = some t → t < q.2.1 := by
  rcases hI.2.2.2 m hm with h | h
  · obtain ⟨t, i, d, u1, u2, _⟩ := hI.1.2.1 m hm h
    exact ⟨some t, u2, fun k hk => by cases hk; exact u1⟩
  · exact ⟨none, h, fun k hk => by cases hk⟩
theorem goal_m {M : zM} {q : PPt} {f : Nat} {V : AV} (h : mV M q f V) {m : Nat} (hm : m < q.1) {o : Option Nat} (e : V 5 m = oT o) (ho : ∀ t, o = some t → t < 2 ^ 31) : M.1 126 (6 * f + m) = oN o := by
  have h5 := h.m5 hm
  rw [e] at h5
  cases o with
  | none => exact gC_m2 h5
  | some t =>
    have := gC_nI (x := M.1 126 (6 * f + m)) (ho t rfl)
    rw [h5] at this
    exact eq_of_beq (this.symm.trans (beq_self_eq_true _))
/-! law -/
theorem eErr_lit : eErr = (-9223372036854775808 : Int64) := by decide
theorem k_law {M : zM} (h : Rel M) (x y : Int32) : ∃ r M1 M2, gX9_law x y M = some (r, M1) ∧ gX10_law x y M1 = some (r, M2) ∧ Rel M2 := by
  have h' := h
  obtain ⟨q, V, I, D, S, B, F, hA, hC, hM⟩ := h
  have hi1 := hC.man y
  have hC' := hC
  obtain ⟨p, c1, c2, c3, c4, c5, c6, c7, c8⟩ := hC
  have hw : WC M 55 p q.1 q.2.1 q.2.2.1 := ⟨Or.inl rfl, c1.2.1, c2.1⟩
  have hn := hA.1.1.1
  have hT := hA.1.1.2.1
  have early : (gX9_law x y M = some (-9223372036854775808, M) ∧ ∀ M1, MR M1 q V I D S B F → ∃ M2, gX10_law x y M1 = some (-9223372036854775808, M2) ∧ M2 = zI M1 98 0 0) → ∃ r M1 M2, gX9_law x y M = some (r, M1) ∧ gX10_law x y M1 = some (r, M2) ∧ Rel M2 := by
    intro ⟨a, b⟩
    obtain ⟨M2, b1, b2⟩ := b M hM
    exact ⟨_, M, M2, a, b1, by rw [b2]; exact h'.z⟩
  by_cases x0 : x < 0
  · apply early
    unfold gX9_law gX10_law
    exact ⟨if_pos x0, fun M1 _ => ⟨_, by rw [zlet_eq, if_pos x0], rfl⟩⟩
  by_cases x3 : (3 : Int32) ≤ x
  · apply early
    unfold gX9_law gX10_law
    have x2 : (2 : Int32) < x := by rw [Int32.lt_iff_toInt_lt]; rw [Int32.le_iff_toInt_le] at x3; have a : (2 : Int32).toInt = 2 := rfl; have b : (3 : Int32).toInt = 3 := rfl; omega
    exact ⟨by rw [if_neg x0, if_pos x3], fun M1 _ => ⟨_, by rw [zlet_eq, if_neg x0, if_pos x2], rfl⟩⟩
  have x2 : ¬ (2 : Int32) < x := by rw [Int32.lt_iff_toInt_lt]; rw [Int32.le_iff_toInt_le] at x3; have a : (2 : Int32).toInt = 2 := rfl; have b : (3 : Int32).toInt = 3 := rfl; omega
  obtain ⟨j, hj, rfl⟩ := man_of (n := 3) (by omega) x0 x3
  rcases isM_cases (n := q.1) (by omega) y with hy | ⟨hy, m, hm, rfl⟩
  · apply early
    refine ⟨by unfold gX9_law; rw [if_neg x0, if_neg x3, zcI_some hi1, hy, if_pos rfl], fun M1 hM1 => ⟨zI M1 98 0 0, ?_, rfl⟩⟩
    have hz := hM1.z (y := 0)
    unfold gX10_law
    rw [zlet_eq, if_neg x0, if_neg x2]
    unfold gX10_hasLaw
    rw [zg_true (zok_nI (show j < 6 by omega) (by omega)), zg_true (zok_nI (show j < 6 by omega) (by omega))]
    split
    · rw [zcI_some rfl, if_pos rfl]
    · rw [zcI_some rfl, if_neg (by decide), zcI_some (hz.2.1.man y), hy, if_pos rfl]
  · -- a MAN
    have main : ∀ (o : Option Nat), (∀ t, o = some t → t < q.2.1) →
        ∃ M1, gX9_law_J49 (nI j) (nI m) (oT o) M = some ((sLaw q.2.2.2.2.1 j (sFacts q.2.2.2.1 V m o 0)).getD eErr, M1) ∧ FrL p M M1 := by
      intro o ho
      obtain ⟨M1, s1, s2, s3, s4⟩ := s_setFacts (more := 0) hw hm ho
      obtain ⟨M2, t1, t2⟩ := s_law (o := o) (more := 0) hw hj s2 s4
      rw [c2.2.1, show vC q.1 q.2.1 M 55 = V from c3] at t1
      unfold gX9_law_J49
      rw [zcV_some s1, zgP_some (by rw [s2.2.1]; exact c1.1) c2.1.1, zcLM_some t1]
      refine ⟨M2, ?_, t2⟩
      unfold sLaw
      rw [c2.2.2.1 j hj]
    have hc : ∀ (o : Option Nat), (∀ t, o = some t → t < q.2.1) → (gX9_law (nI j) (nI m) M = gX9_law_J49 (nI j) (nI m) (oT o) M) → (∀ M1, MR M1 q V I D S B F → gX10_law (nI j) (nI m) M1 = zcI (gX10_hasLaw (nI j) (zI M1 98 0 0)) (fun v3_ => if v3_ = 0 then some ((-9223372036854775808), zI M1 98 0 0) else gX10_law_J55 (nI j) (nI m) (oN o) (zI M1 98 0 0))) → ∃ r M1 M2, gX9_law (nI j) (nI m) M = some (r, M1) ∧ gX10_law (nI j) (nI m) M1 = some (r, M2) ∧ Rel M2 := by
      intro o ho e1 e2
      obtain ⟨M1, a1, a2⟩ := main o ho
      have hC1 : CR M1 q V I D S B F := hC'.mono (fun a i _ _ => by rw [a2.1]) (fun a _ _ => by rw [a2.2.1])
      have hM1 : MR M1 q V I D S B F := hM.mono (fun a i _ => by rw [a2.1])
      have hz := hM1.z (y := 0)
      have hCz := hC1.z (y := 0)
      rw [e1, a1]
      refine ⟨(sLaw q.2.2.2.2.1 j (sFacts q.2.2.2.1 V m o 0)).getD eErr, M1, ?_⟩
      rw [e2 M1 hM1]
      obtain ⟨M2, b1, b2, b3, b4, b5⟩ := r_calls (M := zI M1 98 0 0) (o := o) (more := 0) hz.2.1.1 (show 0 < 23 by omega) hm ho
      rw [hz.2.1.2.1, show vM q.1 q.2.1 (zI M1 98 0 0) 0 = V from hz.2.2.1] at b5
      obtain ⟨l1, l2⟩ := r_law (M1 := M2) (F := sFacts q.2.2.2.1 V m o 0) hz.2.1.1 hj b2 b5 (sFacts_B _ _ _ _ _)
      have hl0 : gX10_hasLaw (nI j) (zI M1 98 0 0) = gX10_hasLaw (nI j) M2 := by unfold gX10_hasLaw; rw [b2]
      rw [hl0, zcI_some l1, hz.2.1.2.2.1 j hj]
      have sl : ∀ F, sLaw (lawM (zI M1 98 0 0)) j F = sLaw q.2.2.2.2.1 j F := fun F => by unfold sLaw; rw [hz.2.1.2.2.1 j hj]
      have relz : ∀ M3, FrS M2 M3 → Rel M3 := fun M3 f3 => ⟨q, V, I, D, S, B, F, hA, hCz.mono (fun a i d _ => by rw [f3.1 a i (by unfold dC at d; omega), b2]) (fun a _ _ => by rw [f3.2.1, b3]), hz.mono (fun a i d => by rw [f3.1 a i (by unfold dM at d; omega), b2])⟩
      cases hlw : q.2.2.2.2.1 j with
      | none =>
        refine ⟨zI M1 98 0 0, rfl, ?_, ⟨q, V, I, D, S, B, F, hA, hCz, hz⟩⟩
        rw [if_pos (by rfl)]
        have : sLaw q.2.2.2.2.1 j (sFacts q.2.2.2.1 V m o 0) = none := by unfold sLaw; rw [hlw]; rfl
        rw [this, ← eErr_lit]
        rfl
      | some c =>
        obtain ⟨b, M3, d1, d2, d3⟩ := l2 (by rw [hz.2.1.2.2.1 j hj, hlw]; rfl)
        rw [sl] at d3
        refine ⟨M3, rfl, ?_, relz M3 d2⟩
        rw [show (some c).isSome = true from rfl, if_pos rfl, if_neg (show ¬ (1 : Int32) = 0 by decide)]
        unfold gX10_law_J55
        rw [show gX10_calls 0 (nI m) (oN o) 0 (zI M1 98 0 0) = some M2 from b1, zcV_some rfl, zcIM_some d1, cl0]
        cases hs : sLaw q.2.2.2.2.1 j (sFacts q.2.2.2.1 V m o 0) with
        | none =>
          rw [hs] at d3
          dsimp only at d3
          rw [d3, if_pos rfl, ← eErr_lit]
          rfl
        | some v =>
          rw [hs] at d3
          dsimp only at d3
          rw [d3.1, if_neg (by decide), d3.2]
          rfl
    by_cases j0 : j = 0
    · subst j0
      refine hc (sFree V q.1 q.2.1) (fun t ht => sFree_lt ht) ?_ (fun M1 hM1 => ?_)
      · unfold gX9_law
        rw [if_neg x0, if_neg x3, zcI_some hi1, hy, if_neg (by decide), if_pos nI_0, zcI_some (s_free hw), show vC q.1 q.2.1 M 55 = V from c3]
      · have hz := hM1.z (y := 0)
        unfold gX10_law
        rw [zlet_eq, if_neg x0, if_neg x2, if_pos nI_0, zcI_some (hz.2.1.man (nI m)), hy, if_neg (show ¬ (1 : Int32) = 0 by decide), show gX10_firstLeft 0 (zI M1 98 0 0) = gX10_firstLeft (nI 0) (zI M1 98 0 0) from rfl, zcI_some (r_free hz.2.1.1 (by omega)), show vM q.1 q.2.1 (zI M1 98 0 0) 0 = V from hz.2.2.1]
    · obtain ⟨o, o1, o2⟩ := goal_c hA.2.1 hm
      have jn : ¬ nI j = 0 := by rw [nI_z, nI_eq (by omega) (by omega)]; exact j0
      refine hc o o2 ?_ (fun M1 hM1 => ?_)
      · unfold gX9_law
        rw [if_neg x0, if_neg x3, zcI_some hi1, hy, if_neg (by decide), if_neg jn, zg_true (zok_nI (show m < 6 by omega) (by omega)), nI_cl (by omega), show M.1 60 m = oT o from (c3.mm (c := 5) (by omega) (by omega) hm).trans o1]
      · have hz := hM1.z (y := 0)
        have eg := goal_m hz.2.2.1 hm o1 (fun t ht => by have := o2 t ht; omega)
        rw [Nat.mul_zero, Nat.zero_add] at eg
        unfold gX10_law
        rw [zlet_eq, if_neg x0, if_neg x2, if_neg jn, zcI_some (hz.2.1.man (nI m)), hy, if_neg (show ¬ (1 : Int32) = 0 by decide), zg_true (zok_nI (show m < 138 by omega) (by omega)), nI_cl (by omega), eg]
