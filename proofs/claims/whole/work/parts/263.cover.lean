/-! sorting in -/
def fset (A : Nat → Int32) (i : Nat) (v : Int32) : Nat → Int32 := fun j => if j = i then v else A j
def insF (A : Nat → Int32) (v : Int32) : Nat → (Nat → Int32)
  | 0 => fset A 0 v
  | k + 1 => if A k ≤ v then fset A (k + 1) v else insF (fset A (k + 1) (A k)) v k
theorem insF_hi {v : Int32} : ∀ (k : Nat) (A : Nat → Int32) (j : Nat), k < j → insF A v k j = A j := by
  intro k
  induction k with
  | zero => intro A j h; unfold insF fset; rw [if_neg (by omega)]
  | succ k ih =>
    intro A j h
    unfold insF
    split
    · unfold fset; rw [if_neg (by omega)]
    · rw [ih _ j (by omega)]; unfold fset; rw [if_neg (by omega)]
theorem insF_congr {v : Int32} : ∀ (k : Nat) (A A' : Nat → Int32), (∀ j, j < k → A j = A' j) → ∀ j, j < k + 1 → insF A v k j = insF A' v k j := by
  intro k
  induction k with
  | zero =>
    intro A A' _ j h
    have : j = 0 := by omega
    subst this
    unfold insF fset
    rw [if_pos rfl, if_pos rfl]
  | succ k ih =>
    intro A A' h j hj
    unfold insF
    rw [h k (by omega)]
    split
    · unfold fset
      by_cases e : j = k + 1
      · rw [if_pos e, if_pos e]
      · rw [if_neg e, if_neg e]; exact h j (by omega)
    · by_cases e : j = k + 1
      · subst e
        rw [insF_hi k _ _ (by omega), insF_hi k _ _ (by omega)]
        unfold fset
        rw [if_pos rfl, if_pos rfl]
      · apply ih
        · intro i hi
          unfold fset
          rw [if_neg (by omega), if_neg (by omega)]
          exact h i (by omega)
        · omega
def rset (M : zM) (a : Nat) (A : Nat → Int32) : zM := ((fun b => if b = a then A else M.1 b), M.2)
theorem rset_at {M : zM} {a : Nat} {A : Nat → Int32} : (rset M a A).1 a = A := by simp [rset]
theorem rset_of {M : zM} {a b : Nat} {A : Nat → Int32} (h : b ≠ a) : (rset M a A).1 b = M.1 b := by simp [rset, h]
theorem rset_self {M : zM} {a : Nat} : rset M a (M.1 a) = M := by
  refine Prod.ext ?_ rfl
  funext b
  by_cases h : b = a
  · subst h; rw [rset_at]
  · rw [rset_of h]
theorem zI_rset {M : zM} {a i : Nat} {A : Nat → Int32} {x : Int32} : zI (rset M a A) a i x = rset M a (fset A i x) := by
  refine Prod.ext ?_ rfl
  funext b j
  by_cases h : b = a
  · subst h
    rw [rset_at]
    unfold fset
    by_cases e : j = i
    · subst e; rw [zI_at, if_pos rfl]
    · rw [zI_of (by omega), if_neg e, rset_at]
  · rw [zI_of (by omega), rset_of h, rset_of h]
theorem nI_dec {k : Nat} : nI (k + 1) - 1 = nI k := by
  have := nI_1 k
  rw [← this]
  exact Int32.add_sub_cancel _ _
theorem nI_dec' {k : Nat} : nI (k + 1) + (-1) = nI k := by
  rw [← nI_dec (k := k), Int32.sub_eq_add_neg]
theorem s_put {M : zM} {a n0 sz : Nat} {v : Int32} (h : sz < n0) (h0 : n0 < 100000) : gX9_putInOrder a n0 (nI sz) v M = some (rset M a (insF (M.1 a) v sz)) := by
  have main : ∀ (k : Nat) (A : Nat → Int32) (N : Nat), k < n0 → k < N → zfix N (gX9_putInOrder_L13 a n0 v) (nI k, rset M a A) = some (rset M a (insF A v k)) := by
    intro k
    induction k with
    | zero =>
      intro A N hk hN
      cases N with
      | zero => omega
      | succ N =>
        rw [zfix_succ]
        unfold gX9_putInOrder_L13
        dsimp only
        rw [if_pos (by rw [nI_z]; exact nI_le (Nat.le_refl _) (by omega)), zg_true (zok_nI hk (by omega)), zlet_eq, nI_cl (by omega), zI_rset]
        rfl
    | succ k ih =>
      intro A N hk hN
      cases N with
      | zero => omega
      | succ N =>
        rw [zfix_succ]
        unfold gX9_putInOrder_L13
        dsimp only
        rw [if_neg (by rw [nI_z, nI_le_iff (by omega) (by omega)]; omega), nI_dec, zg_true (zok_nI (show k < n0 by omega) (by omega)), nI_cl (show k < 2 ^ 31 by omega), rset_at]
        unfold insF
        by_cases e : A k ≤ v
        · rw [if_pos e, if_pos e, zg_true (zok_nI hk (by omega)), zlet_eq, nI_cl (by omega), zI_rset]
        · rw [if_neg e, if_neg e, zg_true (zok_nI (show k < n0 by omega) (by omega)), zg_true (zok_nI hk (by omega)), zlet_eq, nI_cl (show k + 1 < 2 ^ 31 by omega), zI_rset, nI_dec']
          exact ih _ N (by omega) (by omega)
  unfold gX9_putInOrder
  rw [if_neg (nI_pos (by omega)), nI_ofNat, if_pos (nI_lt h (by omega))]
  have := main sz (M.1 a) zFu h (by unfold zFu; omega)
  rw [rset_self] at this
  exact this
/-! cover -/
def covP (q : PPt) (V : AV) (m : Nat) : Int32 := if V 7 m = 0 then sPrem q.2.2.2.1 V q.2.2.2.2.1 m (sFree V q.1 q.2.1) else -2
def covS (q : PPt) (V : AV) : Nat → Nat × (Nat → Int32)
  | 0 => (0, fun _ => 0)
  | m + 1 => if covP q V m < 0 then covS q V m else ((covS q V m).1 + 1, insF (covS q V m).2 (covP q V m) (covS q V m).1)
theorem covS_le {q : PPt} {V : AV} (m : Nat) : (covS q V m).1 ≤ m := by
  induction m with
  | zero => exact Nat.le_refl 0
  | succ m ih =>
    unfold covS
    split
    · omega
    · dsimp only; omega
def sumF (A : Nat → Int32) : Nat → Int32
  | 0 => 0
  | k + 1 => sumF A k + A k
theorem sumF_congr {A A' : Nat → Int32} {k : Nat} (h : ∀ j, j < k → A j = A' j) : sumF A k = sumF A' k := by
  induction k with
  | zero => rfl
  | succ k ih => unfold sumF; rw [ih (fun j hj => h j (by omega)), h k (by omega)]
theorem c_prem {M : zM} {p : Nat} {q : PPt} {V : AV} {m : Nat} (hr : M.2.2 55 0 = some p) (hP : cPl M p q) (hV : cV M q 55 V) (hm : m < q.1) :
    ∃ M', gX9_premiumOf (nI m) (oT (sFree V q.1 q.2.1)) M = some (sPrem q.2.2.2.1 V q.2.2.2.2.1 m (sFree V q.1 q.2.1), M') ∧ FrL p M M' := by
  obtain ⟨M1, a1, a2⟩ := s_prem ⟨Or.inl rfl, hr, hP.1⟩ hm (o := sFree V q.1 q.2.1) (fun t ht => sFree_lt ht)
  rw [hP.2.1, show vC q.1 q.2.1 M 55 = V from hV, sPrem_lw hP.2.2.1] at a1
  exact ⟨M1, a1, a2⟩
theorem m_prem {M : zM} {q : PPt} {V : AV} {m : Nat} (hP : mPl M q) (hV : mV M q 0 V) (hm : m < q.1) :
    ∃ M', gX10_premiumOf (nI m) M = some (sPrem q.2.2.2.1 V q.2.2.2.2.1 m (sFree V q.1 q.2.1), M') ∧ FrS M M' := by
  obtain ⟨M1, a1, a2⟩ := r_prem hP.1 hm
  rw [hP.2.1, show vM q.1 q.2.1 M 0 = V from hV, sPrem_lw hP.2.2.1] at a1
  exact ⟨M1, a1, a2⟩
theorem c_sort {M : zM} {p : Nat} {q : PPt} {V : AV} (hr : cRf M p) (hP : cPl M p q) (hV : cV M q 55 V) (hn : q.1 ≤ 6) :
    ∃ M', gX9_sortPremiums M = some (nI (covS q V q.1).1, M') ∧ (∀ a, a ≠ 4 → M'.1 a = M.1 a) ∧ M'.2.2 = M.2.2 ∧ ∀ j, j < (covS q V q.1).1 → M'.1 4 j = (covS q V q.1).2 j := by
  have hpl := isPl_lt hP.1.1
  have hp4 : 5 ≤ p := by
    have := zisPl_of hP.1.1
    unfold isPl at this
    omega
  unfold gX9_sortPremiums
  rw [zcI_some (s_free (w := 55) ⟨Or.inl rfl, hr.2.1, hP.1⟩), show vC q.1 q.2.1 M 55 = V from hV]
  obtain ⟨s', N', ⟨e1, e2, e3, e4, e5⟩, hz⟩ := zfix_inv (B := gX9_sortPremiums_L12 (oT (sFree V q.1 q.2.1))) (fun k (s : Int32 × Int32 × zM) => s.1 = nI (covS q V k).1 ∧ s.2.1 = nI k ∧ (∀ a, a ≠ 4 → s.2.2.1 a = M.1 a) ∧ s.2.2.2.2 = M.2.2 ∧ ∀ j, j < (covS q V k).1 → s.2.2.1 4 j = (covS q V k).2 j) q.1 (by
    intro k hk s ⟨q1, q2, q3, q4, q5⟩
    obtain ⟨i1, i2, Mk⟩ := s
    dsimp only at q1 q2 q3 q4 q5
    subst q1 q2
    have hle := covS_le (q := q) (V := V) k
    have hPk : cPl Mk p q := hP.mono (fun a i z1 z2 => by rw [q3 a (by omega)])
    have hVk : cV Mk q 55 V := hV.mono (fun a i z1 z2 _ => by rw [q3 a (by omega)])
    have hrk : Mk.2.2 0 2 = some p := by rw [q4]; exact hr.1
    have hr55 : Mk.2.2 55 0 = some p := by rw [q4]; exact hr.2.1
    -- what follows the PREMIUM
    have tail : ∀ (M1 : zM), FrL p Mk M1 → ∃ s' : Int32 × Int32 × zM, (s'.1 = nI (covS q V (k + 1)).1 ∧ s'.2.1 = nI (k + 1) ∧ (∀ a, a ≠ 4 → s'.2.2.1 a = M.1 a) ∧ s'.2.2.2.2 = M.2.2 ∧ ∀ j, j < (covS q V (k + 1)).1 → s'.2.2.1 4 j = (covS q V (k + 1)).2 j) ∧ ∀ rc, gX9_sortPremiums_J52 (oT (sFree V q.1 q.2.1)) (nI (covS q V k).1) (nI k) (covP q V k) rc M1 = rc s' := by
      intro M1 f1
      by_cases hneg : covP q V k < 0
      · have es : covS q V (k + 1) = covS q V k := by show (if _ then _ else _) = _; rw [if_pos hneg]
        rw [es]
        refine ⟨(nI (covS q V k).1, nI (k + 1), M1), ⟨rfl, rfl, fun a ha => by dsimp only; rw [f1.1]; exact q3 a ha, by dsimp only; rw [f1.2.1]; exact q4, fun j hj => by dsimp only; rw [f1.1]; exact q5 j hj⟩, fun rc => ?_⟩
        unfold gX9_sortPremiums_J52
        rw [if_pos hneg, nI_1]
      · have es : covS q V (k + 1) = ((covS q V k).1 + 1, insF (covS q V k).2 (covP q V k) (covS q V k).1) := by show (if _ then _ else _) = _; rw [if_neg hneg]
        rw [es]
        refine ⟨(nI ((covS q V k).1 + 1), nI (k + 1), rset M1 4 (insF (M1.1 4) (covP q V k) (covS q V k).1)), ⟨rfl, rfl, fun a ha => by dsimp only; rw [rset_of ha, f1.1]; exact q3 a ha, by show M1.2.2 = _; rw [f1.2.1]; exact q4, fun j hj => ?_⟩, fun rc => ?_⟩
        · dsimp only at hj ⊢
          rw [rset_at]
          exact insF_congr _ _ _ (fun i hi => by rw [f1.1]; exact q5 i hi) j hj
        · unfold gX9_sortPremiums_J52
          rw [if_neg hneg, zcV_some (s_put (by omega) (by omega)), nI_1, nI_1]
    have e7 : Mk.1 62 k = V 7 k := hVk.mm (c := 7) (by omega) (by omega) hk
    by_cases h7 : V 7 k = 0
    · obtain ⟨M1, a1, a2⟩ := c_prem hr55 hPk hVk hk
      obtain ⟨s', t1, t2⟩ := tail M1 a2
      refine ⟨s', t1, fun rc => ?_⟩
      unfold gX9_sortPremiums_L12
      dsimp only
      rw [zgP_some hrk hP.1.1, hPk.1.2.1.1, if_neg (nI_ge hk (by omega)), nI_lit6, if_neg (nI_ge (by omega) (by omega)), zg_true (zok_nI (show k < 6 by omega) (by omega)), nI_cl (by omega), e7, if_pos h7, zcIM_some a1]
      have : covP q V k = sPrem q.2.2.2.1 V q.2.2.2.2.1 k (sFree V q.1 q.2.1) := by unfold covP; rw [if_pos h7]
      rw [← this]
      exact t2 rc
    · obtain ⟨s', t1, t2⟩ := tail Mk FrL.rf
      refine ⟨s', t1, fun rc => ?_⟩
      unfold gX9_sortPremiums_L12
      dsimp only
      rw [zgP_some hrk hP.1.1, hPk.1.2.1.1, if_neg (nI_ge hk (by omega)), nI_lit6, if_neg (nI_ge (by omega) (by omega)), zg_true (zok_nI (show k < 6 by omega) (by omega)), nI_cl (by omega), e7, if_neg h7]
      have : covP q V k = -2 := by unfold covP; rw [if_neg h7]
      rw [← this]
      exact t2 rc) q.1 0 zFu (0, 0, M) (by omega) (by unfold zFu; omega) ⟨nI_0.symm, nI_0.symm, fun _ _ => rfl, rfl, fun j hj => by simp [covS] at hj⟩
  obtain ⟨i1, i2, Mk⟩ := s'
  dsimp only at e1 e2 e3 e4 e5
  subst e1 e2
  rw [hz]
  unfold gX9_sortPremiums_L12
  dsimp only
  rw [zgP_some (by rw [e4]; exact hr.1) hP.1.1, e3 p (by omega), hP.1.2.1.1, if_pos (nI_le (Nat.le_refl _) (by omega))]
  exact ⟨Mk, rfl, e3, e4, e5⟩
/-- the reference sorts the same way -/
theorem m_put {M : zM} {sz : Nat} {x1 x2 x3 v : Int32} {rc : (Int32 × Int32 × zM) → Option (Int32 × zM)} (h : sz < 6) : zfix zFu (gX10_cover_L64 x1 x2 x3 v rc) (nI sz, M) = rc (x2 + 1, x3 + 1, rset M 132 (insF (M.1 132) v sz)) := by
  have main : ∀ (k : Nat) (A : Nat → Int32) (N : Nat), k < 6 → k < N → zfix N (gX10_cover_L64 x1 x2 x3 v rc) (nI k, rset M 132 A) = rc (x2 + 1, x3 + 1, rset M 132 (insF A v k)) := by
    intro k
    induction k with
    | zero =>
      intro A N hk hN
      cases N with
      | zero => omega
      | succ N =>
        rw [zfix_succ]
        unfold gX10_cover_L64 gX10_cover_J105
        dsimp only
        rw [if_pos (by rw [nI_z]; exact nI_le (Nat.le_refl _) (by omega)), zg_true (zok_nI hk (by omega)), zlet_eq, nI_cl (by omega), zI_rset]
        rfl
    | succ k ih =>
      intro A N hk hN
      cases N with
      | zero => omega
      | succ N =>
        rw [zfix_succ]
        unfold gX10_cover_L64 gX10_cover_J105
        dsimp only
        rw [if_neg (by rw [nI_z, nI_le_iff (by omega) (by omega)]; omega), nI_dec, zg_true (zok_nI (show k < 6 by omega) (by omega)), nI_cl (show k < 2 ^ 31 by omega), rset_at]
        unfold insF
        by_cases e : A k ≤ v
        · rw [if_pos e, if_pos e, zg_true (zok_nI hk (by omega)), zlet_eq, nI_cl (by omega), zI_rset]
        · rw [if_neg e, if_neg e, zg_true (zok_nI (show k < 6 by omega) (by omega)), zg_true (zok_nI hk (by omega)), zlet_eq, nI_cl (show k + 1 < 2 ^ 31 by omega), zI_rset, nI_dec']
          exact ih _ N (by omega) (by omega)
  have := main sz (M.1 132) zFu h (by unfold zFu; omega)
  rw [rset_self] at this
  exact this
def covR (q : PPt) (V : AV) (k : Nat) : Int32 := if (covS q V q.1).1 < k then -2 else sumF (covS q V q.1).2 k
theorem k_cover {M : zM} (h : Rel M) (x : Int32) : ∃ r M1 M2, gX9_cover x M = some (r, M1) ∧ gX10_cover x M1 = some (r, M2) ∧ Rel M2 := by
  have h' := h
  obtain ⟨q, V, I, D, S, B, F, hA, hC, hM⟩ := h
  have hC' := hC
  obtain ⟨p, c1, c2, c3, c4, c5, c6, c7, c8⟩ := hC
  have hn := hA.1.1.1
  unfold gX9_cover gX10_cover
  by_cases x0 : x < 0
  · exact ⟨-1, M, _, by rw [if_pos x0], by rw [zlet_eq, if_pos x0], h'.z⟩
  by_cases x6 : x ≤ 6
  · rw [if_neg x0, if_pos x6]
    have hx : ∃ k, k < 7 ∧ x = nI k := man_of (n := 7) (by omega) x0 (by rw [Int32.le_iff_toInt_le] at x6 ⊢; have a : (6 : Int32).toInt = 6 := rfl; rw [nI_toInt (by omega)]; omega)
    obtain ⟨k, hk, rfl⟩ := hx
    obtain ⟨M1, a1, a2, a3, a4⟩ := c_sort c1 c2 c3 hn
    have hle := covS_le (q := q) (V := V) q.1
    have hC1 : CR M1 q V I D S B F := hC'.mono (fun a i d _ => by rw [a2 a (by unfold dC at d; omega)]) (fun a _ _ => by rw [a3])
    have hM1 : MR M1 q V I D S B F := hM.mono (fun a i d => by rw [a2 a (by unfold dM at d; omega)])
    refine ⟨covR q V k, M1, ?_⟩
    have hc : zcIM (gX9_sortPremiums M) (fun v1_ M2_ => if nI k ≤ v1_ then zfix zFu (gX9_cover_L30 (nI k) M2_) (0, 0) else some (-2, M2_)) = some (covR q V k, M1) := by
      rw [zcIM_some a1]
      unfold covR
      by_cases hks : k ≤ (covS q V q.1).1
      · rw [if_pos (nI_le hks (by omega)), if_neg (by omega)]
        refine zfix_run (fun i => (sumF (covS q V q.1).2 i, nI i)) k (by simp [sumF, nI_0]) (by unfold zFu; omega) ?_ ?_
        · intro i hi rc
          unfold gX9_cover_L30
          dsimp only
          rw [if_neg (nI_ge hi (by omega)), zg_true (zok_nI (show i < 6 by omega) (by omega)), zlet_eq, nI_cl (by omega), a4 i (by omega), nI_1]
          rfl
        · intro rc
          unfold gX9_cover_L30
          dsimp only
          rw [if_pos (nI_le (Nat.le_refl _) (by omega))]
      · rw [if_neg (by rw [nI_le_iff (by omega) (by omega)]; omega), if_pos (by omega)]
    rw [hc]
    have hz := hM1.z (y := 0)
    have hCz := hC1.z (y := 0)
    rw [zlet_eq, if_neg x0, if_pos x6]
    obtain ⟨s', N', ⟨e1, e2, e3, e4⟩, hzz⟩ := zfix_inv (B := gX10_cover_L21 (nI k)) (fun i (s : Int32 × Int32 × zM) => s.1 = nI (covS q V i).1 ∧ s.2.1 = nI i ∧ ((∀ a j, ¬ (a = 98 ∧ j = 34) → a ≠ 132 → s.2.2.1 a j = (zI M1 98 0 0).1 a j) ∧ s.2.2.2.2 = M1.2.2) ∧ ∀ j, j < (covS q V i).1 → s.2.2.1 132 j = (covS q V i).2 j) q.1 (by
      intro i hi s ⟨q1, q2, ⟨q3, q4⟩, q5⟩
      obtain ⟨i1, i2, Mk⟩ := s
      dsimp only at q1 q2 q3 q4 q5
      subst q1 q2
      have hlei := covS_le (q := q) (V := V) i
      have hMk : MR Mk q V I D S B F := hz.mono (fun a j d => q3 a j (by unfold dM at d; omega) (by unfold dM at d; omega))
      have tail : ∀ (M2 : zM), FrS Mk M2 → ∃ s' : Int32 × Int32 × zM, (s'.1 = nI (covS q V (i + 1)).1 ∧ s'.2.1 = nI (i + 1) ∧ ((∀ a j, ¬ (a = 98 ∧ j = 34) → a ≠ 132 → s'.2.2.1 a j = (zI M1 98 0 0).1 a j) ∧ s'.2.2.2.2 = M1.2.2) ∧ ∀ j, j < (covS q V (i + 1)).1 → s'.2.2.1 132 j = (covS q V (i + 1)).2 j) ∧ ∀ rc, gX10_cover_J51 (nI k) (nI (covS q V i).1) (nI i) (covP q V i) rc M2 = rc s' := by
        intro M2 f2
        by_cases hneg : covP q V i < 0
        · have es : covS q V (i + 1) = covS q V i := by show (if _ then _ else _) = _; rw [if_pos hneg]
          rw [es]
          refine ⟨(nI (covS q V i).1, nI (i + 1), M2), ⟨rfl, rfl, ⟨fun a j z1 z2 => by dsimp only; rw [f2.1 a j z1]; exact q3 a j z1 z2, by dsimp only; rw [f2.2.1]; exact q4⟩, fun j hj => by dsimp only; rw [f2.1 132 j (by omega)]; exact q5 j hj⟩, fun rc => ?_⟩
          unfold gX10_cover_J51
          rw [if_neg (Int32.not_le.mpr hneg), nI_1]
        · have es : covS q V (i + 1) = ((covS q V i).1 + 1, insF (covS q V i).2 (covP q V i) (covS q V i).1) := by show (if _ then _ else _) = _; rw [if_neg hneg]
          rw [es]
          refine ⟨(nI ((covS q V i).1 + 1), nI (i + 1), rset M2 132 (insF (M2.1 132) (covP q V i) (covS q V i).1)), ⟨rfl, rfl, ⟨fun a j z1 z2 => by dsimp only; rw [rset_of z2, f2.1 a j z1]; exact q3 a j z1 z2, by show M2.2.2 = _; rw [f2.2.1]; exact q4⟩, fun j hj => ?_⟩, fun rc => ?_⟩
          · dsimp only at hj ⊢
            rw [rset_at]
            exact insF_congr _ _ _ (fun j hj => by rw [f2.1 132 j (by omega)]; exact q5 j hj) j hj
          · unfold gX10_cover_J51
            rw [if_pos (Int32.not_lt.mp hneg), m_put (by omega), nI_1, nI_1]
      have e7 : Mk.1 128 i = V 7 i := by
        have := hMk.2.2.1.m7 hMk.1.ne hi
        rw [Nat.mul_zero, Nat.zero_add] at this
        exact this
      rcases hA.2.1.2.1 i hi with h7 | h7
      · obtain ⟨M2, b1, b2⟩ := m_prem hMk.2.1 hMk.2.2.1 hi
        obtain ⟨s', t1, t2⟩ := tail M2 b2
        refine ⟨s', t1, fun rc => ?_⟩
        unfold gX10_cover_L21
        dsimp only
        rw [cl0, hMk.2.1.1.1.1, if_neg (nI_ge hi (by omega)), zg_true (zok_nI (show i < 138 by omega) (by omega)), nI_cl (by omega), e7, h7, if_neg (by decide), zcIM_some b1]
        have : covP q V i = sPrem q.2.2.2.1 V q.2.2.2.2.1 i (sFree V q.1 q.2.1) := by unfold covP; rw [if_pos h7]
        rw [← this]
        exact t2 rc
      · obtain ⟨s', t1, t2⟩ := tail Mk FrS.rf
        refine ⟨s', t1, fun rc => ?_⟩
        unfold gX10_cover_L21
        dsimp only
        rw [cl0, hMk.2.1.1.1.1, if_neg (nI_ge hi (by omega)), zg_true (zok_nI (show i < 138 by omega) (by omega)), nI_cl (by omega), e7, h7, if_pos rfl]
        have : covP q V i = -2 := by unfold covP; rw [h7, if_neg (by decide)]
        rw [← this]
        exact t2 rc) q.1 0 zFu (0, 0, zI M1 98 0 0) (by omega) (by unfold zFu; omega) ⟨nI_0.symm, nI_0.symm, ⟨fun _ _ _ _ => rfl, rfl⟩, fun j hj => by simp [covS] at hj⟩
    obtain ⟨i1, i2, Mk⟩ := s'
    dsimp only at e1 e2 e3 e4
    subst e1 e2
    have hMk : MR Mk q V I D S B F := hz.mono (fun a j d => e3.1 a j (by unfold dM at d; omega) (by unfold dM at d; omega))
    have hCk : CR Mk q V I D S B F := hCz.mono (fun a j d _ => e3.1 a j (by unfold dC at d; omega) (by unfold dC at d; omega)) (fun a _ _ => by rw [e3.2]; rfl)
    refine ⟨Mk, rfl, ?_, ⟨q, V, I, D, S, B, F, hA, hCk, hMk⟩⟩
    rw [hzz]
    unfold gX10_cover_L21
    dsimp only
    rw [cl0, hMk.2.1.1.1.1, if_pos (nI_le (Nat.le_refl _) (by omega))]
    have fin : ∀ y, y = sumF (covS q V q.1).2 (min k (covS q V q.1).1) → gX10_cover_J156 (nI k) (nI (covS q V q.1).1) y Mk = some (covR q V k, Mk) := by
      intro y hy
      unfold gX10_cover_J156 covR
      by_cases hks : k ≤ (covS q V q.1).1
      · rw [if_pos (nI_le hks (by omega)), if_neg (by omega), hy, Nat.min_eq_left hks]
      · rw [if_neg (by rw [nI_le_iff (by omega) (by omega)]; omega), if_pos (by omega)]
    refine zfix_run (fun i => (sumF (covS q V q.1).2 i, nI i)) (min k (covS q V q.1).1) (by simp [sumF, nI_0]) (by unfold zFu; omega) ?_ ?_
    · intro i hi rc
      unfold gX10_cover_L128
      dsimp only
      rw [if_neg (nI_ge (by omega) (by omega)), if_neg (nI_ge (by omega) (by omega)), zg_true (zok_nI (show i < 6 by omega) (by omega)), zlet_eq, nI_cl (by omega), e4 i (by omega), nI_1]
      rfl
    · intro rc
      unfold gX10_cover_L128
      dsimp only
      by_cases hks : k ≤ (covS q V q.1).1
      · rw [if_pos (nI_le (by omega) (by omega))]
        exact fin _ rfl
      · rw [if_neg (by rw [nI_le_iff (by omega) (by omega)]; omega), if_pos (nI_le (by omega) (by omega))]
        exact fin _ rfl
  · exact ⟨-1, M, _, by rw [if_neg x0, if_neg x6], by rw [zlet_eq, if_neg x0, if_neg x6], h'.z⟩
