/-! ===== the reference reads an E ===== -/
def mAt (M : zM) (N : Nat) (b : Nat → Nat) (i : Nat) : Prop := (mB M N b ∧ M.1 98 27 = -1) ∧ M.1 98 22 = nI (ps N b (i + 1)) ∧ M.1 98 23 = nI (pl N b i) ∧ tokR (tk N b i) (tv N b i) (M.1 98 24) (M.1 98 25)
def FT (M M' : zM) : Prop := M'.2 = M.2 ∧ ∀ a i, ¬ (a = 98 ∧ 22 ≤ i ∧ i ≤ 25) → M'.1 a i = M.1 a i
theorem m_next {M : zM} {N i : Nat} {b : Nat → Nat} (ht : tB N b) (h : mAt M N b i) : ∃ M', gX10_token M = some M' ∧ mAt M' N b (i + 1) ∧ FT M M' := by
  obtain ⟨M', g1, g2, g3, g4, g5, g6⟩ := m_token h.1.1 ht h.2.1 (ps_le ht (i + 1)).1
  exact ⟨M', g1, ⟨⟨h.1.1.mono (g3 _ _ (by omega)) (fun j => g3 _ _ (by omega)), by rw [g3 _ _ (by omega)]; exact h.1.2⟩, g4, g5, g6⟩, g2, g3⟩
theorem mAt.mono {M M' : zM} {N i : Nat} {b : Nat → Nat} (h : mAt M N b i) (h0 : M'.1 98 21 = M.1 98 21) (h1 : ∀ k, 22 ≤ k → (k ≤ 25 ∨ k = 27) → M'.1 98 k = M.1 98 k) (h2 : ∀ k, M'.1 99 k = M.1 99 k) : mAt M' N b i :=
  ⟨⟨h.1.1.mono h0 h2, by rw [h1 27 (by omega) (by omega)]; exact h.1.2⟩, by rw [h1 22 (by omega) (by omega)]; exact h.2.1, by rw [h1 23 (by omega) (by omega)]; exact h.2.2.1, by rw [h1 24 (by omega) (by omega), h1 25 (by omega) (by omega)]; exact h.2.2.2⟩
def FEc (a i : Nat) : Prop := (a = 98 ∧ ((22 ≤ i ∧ i ≤ 27) ∨ i = 30 ∨ i = 31)) ∨ (a = 100 ∧ i = 17) ∨ ((a = 114 ∨ a = 115) ∧ 64 ≤ i)
def FE (M M' : zM) : Prop := M'.2 = M.2 ∧ ∀ a i, ¬ FEc a i → M'.1 a i = M.1 a i
theorem FE.rf {M : zM} : FE M M := ⟨rfl, fun _ _ _ => rfl⟩
theorem FE.tr {M M1 M2 : zM} (h : FE M M1) (h2 : FE M1 M2) : FE M M2 := ⟨h2.1.trans h.1, fun a i q => (h2.2 a i q).trans (h.2 a i q)⟩
theorem FE.put {M : zM} {a i : Nat} {x : Int32} (h : FEc a i) : FE M (zI M a i x) := ⟨rfl, fun c j q => zI_of (fun w => q (by rw [w.1, w.2]; exact h))⟩
theorem FT.E {M M' : zM} (h : FT M M') : FE M M' := ⟨h.1, fun a i q => h.2 a i (fun w => q (by unfold FEc; omega))⟩
/-- the KNOTS told, as the reference has them -/
def kO (M : zM) (out : List (Int32 × Int32)) : Prop := M.1 100 17 = nI out.length ∧ ∀ k, k < out.length → cvK (M.1 114 (64 + k)) (M.1 115 (64 + k)) = out.getD k (0, 0) ∧ okK (M.1 114 (64 + k), M.1 115 (64 + k))
theorem kO.mono {M M' : zM} {out : List (Int32 × Int32)} (h : kO M out) (h0 : M'.1 100 17 = M.1 100 17) (h1 : ∀ k, M'.1 114 k = M.1 114 k) (h2 : ∀ k, M'.1 115 k = M.1 115 k) : kO M' out :=
  ⟨by rw [h0]; exact h.1, fun k hk => by rw [h1, h2]; exact h.2 k hk⟩
def rS (M : zM) (N : Nat) (b : Nat → Nat) (i : Nat) (out : List (Int32 × Int32)) (kn op : Nat) : Prop :=
  M.1 98 26 = 0 ∧ mAt M N b i ∧ M.1 98 30 = nI op ∧ M.1 98 31 = nI kn ∧ kO M out ∧ out.length ≤ kn ∧ kn ≤ 64 ∧ op ≤ 8
def rF (M : zM) (N : Nat) (b : Nat → Nat) (f j : Nat) : Prop := M.1 98 26 = nI f ∧ M.1 98 27 = nI (pl N b j)
theorem rF_ne {M : zM} {N : Nat} {b : Nat → Nat} {f j : Nat} (h : rF M N b f j) (hf : f = 1 ∨ f = 2) : ¬ M.1 98 26 = 0 := by
  rw [h.1]
  rcases hf with rfl | rfl <;> decide
theorem m_wrong {M : zM} {N i : Nat} {b : Nat → Nat} (f : Nat) (h0 : M.1 98 26 = 0) (h : mAt M N b i) : ∃ M', gX10_wrong (nI f) M = some M' ∧ rF M' N b f i ∧ (M'.2 = M.2 ∧ ∀ a k, ¬ (a = 98 ∧ (k = 26 ∨ k = 27)) → M'.1 a k = M.1 a k) := by
  unfold gX10_wrong
  rw [if_pos h0, zlet_eq, zlet_eq]
  refine ⟨_, rfl, ⟨by rw [zI_of (by omega), zI_at], by rw [zI_at, zI_of (by omega)]; exact h.2.2.1⟩, rfl, fun a k q => by rw [zI_of (by omega), zI_of (by omega)]⟩
theorem fr_w {M M' : zM} (h : M'.2 = M.2 ∧ ∀ a k, ¬ (a = 98 ∧ (k = 26 ∨ k = 27)) → M'.1 a k = M.1 a k) : FE M M' := ⟨h.1, fun a i q => h.2 a i (fun w => q (by unfold FEc; omega))⟩
theorem m_knot {M : zM} {N i kn op : Nat} {b : Nat → Nat} {out : List (Int32 × Int32)} (h : rS M N b i out kn op) (hk : kn < 64) : ∃ M', gX10_knot M = some M' ∧ rS M' N b i out (kn + 1) op ∧ FE M M' := by
  obtain ⟨h0, h1, h2, h3, h4, h5, h6, h7⟩ := h
  unfold gX10_knot
  rw [if_pos h0, h3, if_neg (by rw [show (64 : Int32) = nI 64 by decide, nI_eqs (by omega) (by omega)]; omega), zlet_eq, nI_1]
  refine ⟨_, rfl, ⟨by rw [zI_of (by omega)]; exact h0, h1.mono (zI_of (by omega)) (fun k _ _ => zI_of (by omega)) (fun k => zI_of (by omega)), by rw [zI_of (by omega)]; exact h2, zI_at, h4.mono (zI_of (by omega)) (fun k => zI_of (by omega)) (fun k => zI_of (by omega)), by omega, by omega, h7⟩, FE.put (by unfold FEc; omega)⟩
theorem m_knotF {M : zM} {N i kn op : Nat} {b : Nat → Nat} {out : List (Int32 × Int32)} (h : rS M N b i out kn op) (hk : ¬ kn < 64) : ∃ M', gX10_knot M = some M' ∧ rF M' N b 2 i ∧ FE M M' := by
  obtain ⟨h0, h1, h2, h3, h4, h5, h6, h7⟩ := h
  obtain ⟨M', g1, g2, g3⟩ := m_wrong 2 h0 h1
  unfold gX10_knot
  rw [if_pos h0, h3, if_pos (by rw [show kn = 64 by omega]; decide), zcV_some (show gX10_wrong 2 M = _ from g1)]
  exact ⟨M', rfl, g2, fr_w g3⟩
theorem m_goOn {M : zM} {N i kn op : Nat} {b : Nat → Nat} {out : List (Int32 × Int32)} (ht : tB N b) (h : rS M N b i out kn op) : ∃ M', gX10_goOn M = some M' ∧ rS M' N b (i + 1) out kn op ∧ FE M M' := by
  obtain ⟨h0, h1, h2, h3, h4, h5, h6, h7⟩ := h
  obtain ⟨M', g1, g2, g3⟩ := m_next ht h1
  unfold gX10_goOn
  rw [if_pos h0, zcV_some g1]
  exact ⟨M', rfl, ⟨by rw [g3.2 _ _ (by omega)]; exact h0, g2, by rw [g3.2 _ _ (by omega)]; exact h2, by rw [g3.2 _ _ (by omega)]; exact h3, h4.mono (g3.2 _ _ (by omega)) (fun k => g3.2 _ _ (by omega)) (fun k => g3.2 _ _ (by omega)), h5, h6, h7⟩, g3.E⟩
theorem m_tokS {M : zM} {N i kn op : Nat} {b : Nat → Nat} {out : List (Int32 × Int32)} (ht : tB N b) (h : rS M N b i out kn op) : ∃ M', gX10_token M = some M' ∧ rS M' N b (i + 1) out kn op ∧ FE M M' := by
  obtain ⟨M', g1, g2, g3⟩ := m_goOn ht h
  refine ⟨M', ?_, g2, g3⟩
  unfold gX10_goOn at g1
  rw [if_pos h.1] at g1
  obtain ⟨v, e1, e2⟩ := zcV_of g1
  rw [e1, e2]
theorem m_goOnF {M : zM} (h : ¬ M.1 98 26 = 0) : gX10_goOn M = some M := by unfold gX10_goOn; rw [if_neg h]
theorem m_putsF {M : zM} {x y : Int32} (h : ¬ M.1 98 26 = 0) : gX10_puts x y M = some M := by unfold gX10_puts; rw [if_neg h]
theorem m_knotFF {M : zM} (h : ¬ M.1 98 26 = 0) : gX10_knot M = some M := by unfold gX10_knot; rw [if_neg h]
theorem m_wrongF {M : zM} {x : Int32} (h : ¬ M.1 98 26 = 0) : gX10_wrong x M = some M := by unfold gX10_wrong; rw [if_neg h]
theorem m_isWF {M : zM} {x : Int32} (h : ¬ M.1 98 26 = 0) : gX10_isWord x M = some 0 := by unfold gX10_isWord; rw [if_neg h]
theorem m_isSF {M : zM} {x : Int32} (h : ¬ M.1 98 26 = 0) : gX10_isSign x M = some 0 := by unfold gX10_isSign; rw [if_neg h]
theorem m_fresher {M : zM} {w : Nat} (h : w < 9) : gX10_fresher (nI w) M = some (M.1 100 (9 + w)) := by
  unfold gX10_fresher
  rw [show (9 : Int32) = nI 9 by decide, nI_add, zg_true (zok_nI (by omega) (by omega)), nI_cl (by omega)]
theorem m_reads {M : zM} {w : Nat} {x : Int32} (h : w < 9) : gX10_reads (nI w) x M = some (zI M 100 (9 + w) x) := by
  unfold gX10_reads
  rw [show (9 : Int32) = nI 9 by decide, nI_add, zg_true (zok_nI (by omega) (by omega)), nI_cl (by omega), zlet_eq]
theorem getD_app {out : List (Int32 × Int32)} {q : Int32 × Int32} : (out ++ [q]).getD out.length (0, 0) = q := by
  rw [List.getD_eq_getElem?_getD, List.getElem?_append_right (Nat.le_refl _), Nat.sub_self]; rfl
theorem getD_app_lt {out c : List (Int32 × Int32)} {k : Nat} (h : k < out.length) : (out ++ c).getD k (0, 0) = out.getD k (0, 0) := by
  rw [List.getD_eq_getElem?_getD, List.getElem?_append_left h, ← List.getD_eq_getElem?_getD]
theorem m_puts {M : zM} {N i kn op : Nat} {b : Nat → Nat} {out : List (Int32 × Int32)} {x y : Int32} {q : Int32 × Int32} (h : rS M N b i out kn op) (hk : out.length < kn) (hq : cvK x y = q) (ho : okK (x, y)) : ∃ M', gX10_puts x y M = some M' ∧ rS M' N b i (out ++ [q]) kn op ∧ FE M M' := by
  obtain ⟨h0, h1, h2, h3, h4, h5, h6, h7⟩ := h
  have f8 : ∀ M' : zM, gX10_fresher 8 M' = some (M'.1 100 17) := fun M' => m_fresher (w := 8) (by omega)
  have r8 : ∀ (M' : zM) (z : Int32), gX10_reads 8 z M' = some (zI M' 100 17 z) := fun M' z => m_reads (w := 8) (by omega)
  unfold gX10_puts
  rw [if_pos h0, zcI_some (f8 M), h4.1, show (64 : Int32) = nI 64 by decide, nI_add, zg_true (zok_nI (by omega) (by omega)), zlet_eq, nI_cl (by omega), zcI_some (f8 _), zI_of (by omega), h4.1, nI_add, zg_true (zok_nI (by omega) (by omega)), zlet_eq, nI_cl (by omega), zcI_some (f8 _), zI_of (by omega), zI_of (by omega), h4.1, nI_1, zcV_some (r8 _ _)]
  refine ⟨_, rfl, ⟨?_, ?_, ?_, ?_, ⟨?_, fun k hk' => ?_⟩, ?_, h6, h7⟩, ?_⟩
  · rw [zI_of (by omega), zI_of (by omega), zI_of (by omega)]; exact h0
  · exact h1.mono (by rw [zI_of (by omega), zI_of (by omega), zI_of (by omega)]) (fun k _ _ => by rw [zI_of (by omega), zI_of (by omega), zI_of (by omega)]) (fun k => by rw [zI_of (by omega), zI_of (by omega), zI_of (by omega)])
  · rw [zI_of (by omega), zI_of (by omega), zI_of (by omega)]; exact h2
  · rw [zI_of (by omega), zI_of (by omega), zI_of (by omega)]; exact h3
  · rw [zI_at, List.length_append]; rfl
  · rw [List.length_append] at hk'
    have hk2 : k < out.length + 1 := hk'
    by_cases e : k = out.length
    · subst e
      rw [zI_of (by omega), zI_of (by omega), zI_at, zI_of (by omega), zI_at, getD_app]
      exact ⟨hq, ho⟩
    · rw [zI_of (by omega), zI_of (by omega), zI_of (by omega), zI_of (by omega), zI_of (by omega), zI_of (by omega), getD_app_lt (by omega)]
      exact h4.2 k (by omega)
  · rw [List.length_append]; show out.length + 1 ≤ kn; omega
  · exact ((FE.put (by unfold FEc; omega)).tr (FE.put (by unfold FEc; omega))).tr (FE.put (by unfold FEc; omega))
theorem rSo_all : ∀ K : Fin 39, (rSo K.val = 0 ↔ (7 ≤ K.val ∧ K.val ≤ 28)) ∧ (rSo K.val = 3 ↔ ((4 ≤ K.val ∧ K.val ≤ 6) ∨ 29 ≤ K.val)) ∧ (rSo K.val = 2 ↔ K.val = 3) ∧ (rSo K.val = 1 ↔ K.val = 2) ∧ (rSo K.val = 4 ↔ K.val = 0) := by decide +kernel
theorem rSo_at {K : Nat} (h : K ≤ 38) : (rSo K = 0 ↔ (7 ≤ K ∧ K ≤ 28)) ∧ (rSo K = 3 ↔ ((4 ≤ K ∧ K ≤ 6) ∨ 29 ≤ K)) ∧ (rSo K = 2 ↔ K = 3) ∧ (rSo K = 1 ↔ K = 2) ∧ (rSo K = 4 ↔ K = 0) := rSo_all ⟨K, by omega⟩
def wTb (w : Int32) (k0 : Nat) : Bool := (List.range 39).all (fun K => decide ((7 ≤ K ∧ K ≤ 28 ∧ rVa K = w) ↔ K = k0))
def sTb (w : Int32) (k0 : Nat) : Bool := (List.range 39).all (fun K => decide ((((4 ≤ K ∧ K ≤ 6) ∨ 29 ≤ K) ∧ rVa K = w) ↔ K = k0))
theorem tk_38 {N : Nat} {b : Nat → Nat} (ht : tB N b) (i : Nat) : tk N b i ≤ 38 := (tk_facts ht (ps_le ht i).2).1
theorem m_isW {M : zM} {N i k0 : Nat} {b : Nat → Nat} {w : Int32} (ht : tB N b) (h0 : M.1 98 26 = 0) (h : mAt M N b i) (hw : wTb w k0 = true) : gX10_isWord w M = some (b2i (decide (tk N b i = k0))) := by
  have h38 := tk_38 ht i
  have a := of_decide_eq_true (List.all_eq_true.mp hw (tk N b i) (List.mem_range.mpr (by omega)))
  obtain ⟨t1, t2, t3, t4⟩ := h.2.2.2
  have s := (rSo_at h38).1
  unfold gX10_isWord
  rw [if_pos h0, t1]
  by_cases e : tk N b i = k0
  · have c := a.mpr e
    rw [if_pos (s.mpr ⟨c.1, c.2.1⟩), t4 (by omega), if_pos c.2.2, decide_eq_true e]; rfl
  · rw [decide_eq_false e]
    by_cases w7 : 7 ≤ tk N b i ∧ tk N b i ≤ 28
    · rw [if_pos (s.mpr w7), t4 (by omega), if_neg (fun z => e (a.mp ⟨w7.1, w7.2, z⟩))]; rfl
    · rw [if_neg (fun z => w7 (s.mp z))]; rfl
theorem m_isS {M : zM} {N i k0 : Nat} {b : Nat → Nat} {w : Int32} (ht : tB N b) (h0 : M.1 98 26 = 0) (h : mAt M N b i) (hw : sTb w k0 = true) : gX10_isSign w M = some (b2i (decide (tk N b i = k0))) := by
  have h38 := tk_38 ht i
  have a := of_decide_eq_true (List.all_eq_true.mp hw (tk N b i) (List.mem_range.mpr (by omega)))
  obtain ⟨t1, t2, t3, t4⟩ := h.2.2.2
  have s := (rSo_at h38).2.1
  unfold gX10_isSign
  rw [if_pos h0, t1]
  by_cases e : tk N b i = k0
  · have c := a.mpr e
    rw [if_pos (s.mpr c.1), t4 (by omega), if_pos c.2, decide_eq_true e]; rfl
  · rw [decide_eq_false e]
    by_cases w7 : (4 ≤ tk N b i ∧ tk N b i ≤ 6) ∨ 29 ≤ tk N b i
    · rw [if_pos (s.mpr w7), t4 (by omega), if_neg (fun z => e (a.mp ⟨w7, z⟩))]; rfl
    · rw [if_neg (fun z => w7 (s.mp z))]; rfl
theorem wt12 : wTb 12 26 = true := by decide +kernel
theorem wt13 : wTb 13 27 = true := by decide +kernel
theorem wt14 : wTb 14 28 = true := by decide +kernel
theorem st40 : sTb 40 5 = true := by decide +kernel
theorem st41 : sTb 41 6 = true := by decide +kernel
theorem st59 : sTb 59 4 = true := by decide +kernel
theorem st43 : sTb 43 35 = true := by decide +kernel
theorem st45 : sTb 45 36 = true := by decide +kernel
theorem st42 : sTb 42 37 = true := by decide +kernel
theorem st47 : sTb 47 38 = true := by decide +kernel
/-! a FAULT: nothing is read any more -/
theorem zfu_s {σ ρ : Type} (B : (σ → Option ρ) → σ → Option ρ) (s : σ) : zfix zFu B s = B (zfix 99999 B) s := zfix_succ 99999 B s
theorem l0_F {F : Nat → zM → Option zM} {rc : zM → Option zM} {M : zM} (h : ¬ M.1 98 26 = 0) : gX10_expression_L4 F rc M = some M := by
  unfold gX10_expression_L4; rw [zcI_some (m_isWF h), if_pos rfl]
theorem l1_F {F : Nat → zM → Option zM} {rc : zM → Option zM} {M : zM} (h : ¬ M.1 98 26 = 0) : gX10_conjunction_L4 F rc M = some M := by
  unfold gX10_conjunction_L4; rw [zcI_some (m_isWF h), if_pos rfl]
theorem l3_F {F : Nat → zM → Option zM} {rc : zM → Option zM} {M : zM} (h : ¬ M.1 98 26 = 0) : gX10_sum_L4 F rc M = some M := by
  unfold gX10_sum_L4; rw [zcI_some (m_isSF h), if_pos rfl, zcI_some (m_isSF h), if_pos rfl]
theorem l4_F {F : Nat → zM → Option zM} {rc : zM → Option zM} {M : zM} (h : ¬ M.1 98 26 = 0) : gX10_product_L4 F rc M = some M := by
  unfold gX10_product_L4; rw [zcI_some (m_isSF h), if_pos rfl, zcI_some (m_isSF h), if_pos rfl]
theorem gGE_F {M : zM} (h : ¬ M.1 98 26 = 0) : ∀ k t, t ≤ 5 → 6 ≤ k + t → gGE k t M = some M := by
  intro k
  induction k with
  | zero => intro t h1 h2; omega
  | succ k ih =>
    intro t h1 h2
    rcases (show t = 0 ∨ t = 1 ∨ t = 2 ∨ t = 3 ∨ t = 4 ∨ t = 5 by omega) with rfl | rfl | rfl | rfl | rfl | rfl
    · show bX10_expression (gGE k) M = _
      unfold bX10_expression
      rw [zcV_some (ih 1 (by omega) (by omega)), zfu_s, l0_F h]
    · show bX10_conjunction (gGE k) M = _
      unfold bX10_conjunction
      rw [zcV_some (ih 2 (by omega) (by omega)), zfu_s, l1_F h]
    · show bX10_negation (gGE k) M = _
      unfold bX10_negation
      rw [zcI_some (m_isWF h), if_pos rfl, zcV_some (ih 3 (by omega) (by omega)), if_neg h]
    · show bX10_sum (gGE k) M = _
      unfold bX10_sum
      rw [zcV_some (ih 4 (by omega) (by omega)), zfu_s, l3_F h]
    · show bX10_product (gGE k) M = _
      unfold bX10_product
      rw [zcV_some (ih 5 (by omega) (by omega)), zfu_s, l4_F h]
    · show bX10_primary (gGE k) M = _
      unfold bX10_primary
      rw [if_neg h]
/-! rows of KNOTS that leave one value -/
def wfc (c : List (Int32 × Int32)) : Prop := ∀ h, wfS c h ∧ htS c h = h + 1
theorem htS_app : ∀ (a c : List (Int32 × Int32)) (h : Nat), htS (a ++ c) h = htS c (htS a h) := by
  intro a
  induction a with
  | nil => intro c h; rfl
  | cons q a ih =>
    intro c h
    show (if q.1 = 28 then htS (a ++ c) h else if q.1 < 26 then htS (a ++ c) (h + 1) else htS (a ++ c) (h - 1)) = htS c (if q.1 = 28 then htS a h else if q.1 < 26 then htS a (h + 1) else htS a (h - 1))
    rw [ih, ih, ih]
    repeat' split
    all_goals rfl
theorem wfS_app : ∀ (a c : List (Int32 × Int32)) (h : Nat), wfS a h → wfS c (htS a h) → wfS (a ++ c) h := by
  intro a
  induction a with
  | nil => intro c h _ w; exact w
  | cons q a ih =>
    intro c h w1 w2
    have e1 : wfS (q :: a) h = (if q.1 = 28 then 1 ≤ h ∧ wfS a h else if q.1 < 26 then wfS a (h + 1) else 2 ≤ h ∧ wfS a (h - 1)) := rfl
    have e2 : htS (q :: a) h = (if q.1 = 28 then htS a h else if q.1 < 26 then htS a (h + 1) else htS a (h - 1)) := rfl
    show (if q.1 = 28 then 1 ≤ h ∧ wfS (a ++ c) h else if q.1 < 26 then wfS (a ++ c) (h + 1) else 2 ≤ h ∧ wfS (a ++ c) (h - 1))
    rw [e1] at w1
    rw [e2] at w2
    by_cases c1 : q.1 = 28
    · rw [if_pos c1] at w1 w2 ⊢
      exact ⟨w1.1, ih c h w1.2 w2⟩
    · rw [if_neg c1] at w1 w2 ⊢
      by_cases c2 : q.1 < 26
      · rw [if_pos c2] at w1 w2 ⊢
        exact ih c _ w1 w2
      · rw [if_neg c2] at w1 w2 ⊢
        exact ⟨w1.1, ih c _ w1.2 w2⟩
theorem wfc_2 {a c : List (Int32 × Int32)} {K : Nat} (ha : wfc a) (hc : wfc c) (h1 : ¬ nI K = 28) (h2 : ¬ nI K < 26) : wfc (a ++ c ++ [(nI K, 0)]) := by
  intro h
  have e : htS (a ++ c) h = h + 2 := by rw [htS_app, (ha h).2, (hc (h + 1)).2]
  have w : wfS (a ++ c) h := wfS_app a c h (ha h).1 (by rw [(ha h).2]; exact (hc (h + 1)).1)
  refine ⟨wfS_app _ _ h w ?_, ?_⟩
  · rw [e]
    show (if nI K = 28 then _ else if nI K < 26 then _ else _)
    rw [if_neg h1, if_neg h2]
    exact ⟨by omega, trivial⟩
  · rw [htS_app, e]
    show (if nI K = 28 then _ else if nI K < 26 then _ else _) = _
    rw [if_neg h1, if_neg h2]
    rfl
theorem wfc_n {c : List (Int32 × Int32)} (hc : wfc c) : wfc (c ++ [(nI 28, 0)]) := by
  intro h
  refine ⟨wfS_app _ _ h (hc h).1 ?_, ?_⟩
  · rw [(hc h).2]
    show (if nI 28 = 28 then _ else _)
    rw [if_pos (by decide)]
    exact ⟨by omega, trivial⟩
  · rw [htS_app, (hc h).2]
    show (if nI 28 = 28 then _ else _) = _
    rw [if_pos (by decide)]
    rfl
theorem wfc_1 {q : Int32 × Int32} (h1 : ¬ q.1 = 28) (h2 : q.1 < 26) : wfc [q] := by
  intro h
  constructor
  · show (if q.1 = 28 then _ else if q.1 < 26 then _ else _)
    rw [if_neg h1, if_pos h2]
    trivial
  · show (if q.1 = 28 then _ else if q.1 < 26 then _ else _) = _
    rw [if_neg h1, if_pos h2]
    rfl
theorem lev_bin {K : Nat} (hK : K ≤ 38) (h : lev K ≠ 0) (h3 : lev K ≠ 3) : ¬ nI K = 28 ∧ ¬ nI K < 26 := by
  have : (List.range 39).all (fun K => decide (lev K = 0) || decide (lev K = 3) || (decide (¬ nI K = 28) && decide (¬ nI K < 26))) = true := by decide +kernel
  have a := List.all_eq_true.mp this K (List.mem_range.mpr (by omega))
  rw [decide_eq_false h, decide_eq_false h3, Bool.false_or, Bool.false_or, Bool.and_eq_true] at a
  exact ⟨of_decide_eq_true a.1, of_decide_eq_true a.2⟩
