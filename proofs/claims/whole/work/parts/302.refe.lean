/-! ===== class and reference read an E alike ===== -/
def gBin (F : Nat → zM → Option zM) (t : Nat) (w : Int32) (rc : zM → Option zM) (s : zM) : Option zM := zcV (gX10_knot s) (fun M5 => zcV (gX10_goOn M5) (fun M7 => zcV (F t M7) (fun M9 => zcV (gX10_puts 2 w M9) (fun M11 => rc M11))))
/-- what reading a part of kind t comes to -/
def EO (N z : Nat) (b : Nat → Nat) (t i : Nat) (out : List (Int32 × Int32)) (kn op : Nat) (M' : zM) : Prop :=
  (∃ f j, j ≤ z ∧ rF M' N b f j ∧ noO (tk N b) (tv N b) t i j f out kn op) ∨ (∃ j c, j ≤ z ∧ rS M' N b j (out ++ c) (kn + c.length) op ∧ okO (tk N b) (tv N b) t i j out c kn op ∧ nxt (tk N b) t j ∧ wfc c)
def EP (N z : Nat) (b : Nat → Nat) (k t : Nat) : Prop := ∀ (M : zM) (i : Nat) (out : List (Int32 × Int32)) (kn op : Nat), rS M N b i out kn op → i ≤ z → 125 ≤ k + kn + 6 * op + t → ∃ M', gGE k t M = some M' ∧ FE M M' ∧ EO N z b t i out kn op M'
theorem gBin_run {N z k t i knA op : Nat} {b : Nat → Nat} {w : Int32} {M : zM} {outA : List (Int32 × Int32)} {q : Int32 × Int32} (ht : tB N b) (hE : EP N z b k t) (h : rS M N b i outA knA op) (hi : i < z) (hfu : 125 ≤ k + (knA + 1) + 6 * op + t) (h5 : t ≤ 5) (hq : cvK 2 w = q) (rc : zM → Option zM) :
    (¬ knA < 64 ∧ ∃ M', gBin (gGE k) t w rc M = rc M' ∧ rF M' N b 2 i ∧ FE M M') ∨ (knA < 64 ∧ ((∃ M' f j, j ≤ z ∧ gBin (gGE k) t w rc M = rc M' ∧ FE M M' ∧ rF M' N b f j ∧ noO (tk N b) (tv N b) t (i + 1) j f outA (knA + 1) op) ∨ (∃ M' j c1, j ≤ z ∧ gBin (gGE k) t w rc M = rc M' ∧ FE M M' ∧ rS M' N b j (outA ++ c1 ++ [q]) (knA + 1 + c1.length) op ∧ okO (tk N b) (tv N b) t (i + 1) j outA c1 (knA + 1) op ∧ nxt (tk N b) t j ∧ wfc c1))) := by
  have h64 : knA ≤ 64 := h.2.2.2.2.2.2.1
  have h8 : op ≤ 8 := h.2.2.2.2.2.2.2
  have hlen : outA.length ≤ knA := h.2.2.2.2.2.1
  unfold gBin
  by_cases hk : knA < 64
  · refine Or.inr ⟨hk, ?_⟩
    obtain ⟨M5, a1, a2, a3⟩ := m_knot h hk
    obtain ⟨M7, b1, b2, b3⟩ := m_goOn ht a2
    obtain ⟨M9, c1, c2, c3⟩ := hE M7 (i + 1) outA (knA + 1) op b2 (by omega) hfu
    rw [zcV_some a1, zcV_some b1, zcV_some c1]
    rcases c3 with ⟨f, j, d1, d2, d3⟩ | ⟨j, cc, d1, d2, d3, d4, d5⟩
    · refine Or.inl ⟨M9, f, j, d1, ?_, (a3.tr b3).tr c2, d2, d3⟩
      rw [zcV_some (m_putsF (rF_ne d2 d3.2.1))]
    · obtain ⟨M11, e1, e2, e3⟩ := m_puts (x := 2) (y := w) (q := q) d2 (by rw [List.length_append]; omega) hq (Or.inl rfl)
      refine Or.inr ⟨M11, j, cc, d1, ?_, ((a3.tr b3).tr c2).tr e3, e2, d3, d4, d5⟩
      rw [zcV_some e1]
  · refine Or.inl ⟨hk, ?_⟩
    obtain ⟨M5, a1, a2, a3⟩ := m_knotF h hk
    have ne := rF_ne a2 (Or.inr rfl)
    refine ⟨M5, ?_, a2, a3⟩
    rw [zcV_some a1, zcV_some (m_goOnF ne), zcV_some (gGE_F ne k t h5 (by omega)), zcV_some (m_putsF ne)]
theorem nxt_bin {K : Nat → Nat} {t i : Nat} (h4 : t = 0 ∨ t = 1 ∨ t = 3 ∨ t = 4) (hx : nxt K (t + 1) i) (hl : lev (K i) ≠ lb t) : nxt K t i := by
  unfold nxt at hx ⊢
  rcases h4 with rfl | rfl | rfl | rfl
  · have e1 : bd (0 + 1) = 2 := rfl
    have e2 : lb 0 = 1 := rfl
    have e3 : bd 0 = 1 := rfl
    omega
  · have e1 : bd (1 + 1) = 4 := rfl
    have e2 : lb 1 = 2 := rfl
    have e3 : bd 1 = 2 := rfl
    omega
  · have e1 : bd (3 + 1) = 6 := rfl
    have e2 : lb 3 = 5 := rfl
    have e3 : bd 3 = 5 := rfl
    omega
  · have e1 : bd (4 + 1) = 7 := rfl
    have e2 : lb 4 = 6 := rfl
    have e3 : bd 4 = 6 := rfl
    omega
theorem b2i_f : b2i false = 0 := rfl
theorem lev0 : lev 0 = 0 := rfl
theorem lb_pos {t : Nat} : lb t ≠ 0 := by
  unfold lb
  split <;> omega
theorem cvK_s {w : Int32} {K : Nat} (h : cvS w = nI K) : cvK 2 w = (nI K, 0) := by
  unfold cvK
  rw [if_pos rfl, h]
theorem loop_E {N z k t : Nat} {b : Nat → Nat} (ht : tB N b) (hz0 : tk N b z = 0) (h4 : t = 0 ∨ t = 1 ∨ t = 3 ∨ t = 4) (hE : EP N z b k (t + 1)) {L : (zM → Option zM) → zM → Option zM} (hL : ∀ rc M i, M.1 98 26 = 0 → mAt M N b i → (lev (tk N b i) = lb t → ∃ w, cvS w = nI (tk N b i) ∧ L rc M = gBin (gGE k) (t + 1) w rc M) ∧ (lev (tk N b i) ≠ lb t → L rc M = some M)) (hf : ∀ rc M, ¬ M.1 98 26 = 0 → L rc M = some M) {i0 kn op : Nat} {out : List (Int32 × Int32)} (hfu : 125 ≤ k + kn + 6 * op + (t + 1)) :
    ∀ (d n : Nat) (M : zM) (i : Nat) (c : List (Int32 × Int32)), z - i ≤ d → d < n → rS M N b i (out ++ c) (kn + c.length) op → i ≤ z → okO (tk N b) (tv N b) t i0 i out c kn op → nxt (tk N b) (t + 1) i → wfc c → ∃ M', zfix n L M = some M' ∧ FE M M' ∧ EO N z b t i0 out kn op M' := by
  have fin : ∀ (n : Nat) (M : zM) (i : Nat) (c : List (Int32 × Int32)), 0 < n → rS M N b i (out ++ c) (kn + c.length) op → i ≤ z → okO (tk N b) (tv N b) t i0 i out c kn op → nxt (tk N b) (t + 1) i → wfc c → lev (tk N b i) ≠ lb t → ∃ M', zfix n L M = some M' ∧ FE M M' ∧ EO N z b t i0 out kn op M' := by
    intro n M i c hn hS hi hO hx hw hl
    obtain ⟨n, rfl⟩ : ∃ m, n = m + 1 := ⟨n - 1, by omega⟩
    refine ⟨M, ?_, FE.rf, Or.inr ⟨i, c, hi, hS, hO, nxt_bin h4 hx hl, hw⟩⟩
    rw [zfix_succ]
    exact (hL _ M i hS.1 hS.2.1).2 hl
  intro d
  induction d with
  | zero =>
    intro n M i c hd hn hS hi hO hx hw
    refine fin n M i c hn hS hi hO hx hw ?_
    rw [show i = z by omega, hz0, lev0]
    exact fun e => lb_pos e.symm
  | succ d ih =>
    intro n M i c hd hn hS hi hO hx hw
    by_cases hl : lev (tk N b i) = lb t
    · have hiz : i < z := by
        rcases Nat.lt_or_ge i z with w | w
        · exact w
        · rw [show i = z by omega, hz0, lev0] at hl
          exact absurd hl.symm lb_pos
      obtain ⟨n, rfl⟩ : ∃ m, n = m + 1 + 1 := ⟨n - 2, by omega⟩
      obtain ⟨w, hw1, hw2⟩ := (hL (zfix (n + 1) L) M i hS.1 hS.2.1).1 hl
      have h64 : kn + c.length ≤ 64 := hS.2.2.2.2.2.2.1
      have h38 := tk_38 ht i
      obtain ⟨b1, b2, b3, b4, b5, b6, b7⟩ := bin_lev h4 hl
      rw [zfix_succ, hw2]
      rcases gBin_run ht hE hS hiz (by omega) (by omega) (cvK_s hw1) (zfix (n + 1) L) with ⟨hk, M', g1, g2, g3⟩ | ⟨hk, ⟨M', f, j, g0, g1, g2, g3, g4⟩ | ⟨M', j, c1, g0, g1, g2, g3, g4, g5, g6⟩⟩
      · have ne := rF_ne g2 (Or.inr rfl)
        refine ⟨M', ?_, g3, Or.inl ⟨2, i, hi, g2, bin_no h4 hl hO hk⟩⟩
        rw [g1, zfix_succ, hf _ _ ne]
      · have ne := rF_ne g3 g4.2.1
        refine ⟨M', ?_, g2, Or.inl ⟨f, j, g0, g3, bin_no1 h4 h38 hl hO hk g4⟩⟩
        rw [g1, zfix_succ, hf _ _ ne]
      · rw [g1]
        have hb := lev_bin h38 b2 b3
        have hj : i + 1 < j := g4.1
        have e1 : out ++ c ++ c1 ++ [(nI (tk N b i), (0 : Int32))] = out ++ (c ++ c1 ++ [(nI (tk N b i), 0)]) := by simp [List.append_assoc]
        have e2 : kn + c.length + 1 + c1.length = kn + (c ++ c1 ++ [((nI (tk N b i), 0) : Int32 × Int32)]).length := by
          rw [List.length_append, List.length_append]; show _ = kn + (c.length + c1.length + 1); omega
        rw [e1, e2] at g3
        obtain ⟨M2, q1, q2, q3⟩ := ih (n + 1) M' j (c ++ c1 ++ [(nI (tk N b i), 0)]) (by omega) (by omega) g3 g0 (bin_ok h4 h38 hl hO hk g4) g5 (wfc_2 hw g6 hb.1 hb.2)
        exact ⟨M2, q1, g2.tr q2, q3⟩
    · exact fin n M i c (by omega) hS hi hO hx hw hl
theorem pn_bin {K : Nat → Nat} {t i : Nat} (h4 : t = 0 ∨ t = 1 ∨ t = 3 ∨ t = 4) (pn : Bool) (h : pnOk K t pn i) : pnOk K (t + 1) pn i := by
  rcases h4 with rfl | rfl | rfl | rfl <;> exact h
theorem bin_E {N z k t : Nat} {b : Nat → Nat} (ht : tB N b) (hz0 : tk N b z = 0) (hz : z ≤ 700) (h4 : t = 0 ∨ t = 1 ∨ t = 3 ∨ t = 4) (hE : EP N z b k (t + 1)) {L : (zM → Option zM) → zM → Option zM} (hL : ∀ rc M i, M.1 98 26 = 0 → mAt M N b i → (lev (tk N b i) = lb t → ∃ w, cvS w = nI (tk N b i) ∧ L rc M = gBin (gGE k) (t + 1) w rc M) ∧ (lev (tk N b i) ≠ lb t → L rc M = some M)) (hf : ∀ rc M, ¬ M.1 98 26 = 0 → L rc M = some M) (hg : ∀ M, gGE (k + 1) t M = zcV (gGE k (t + 1) M) (fun M1 => zfix zFu L M1)) : EP N z b (k + 1) t := by
  intro M i out kn op hS hi hfu
  obtain ⟨M1, a1, a2, a3⟩ := hE M i out kn op hS hi (by omega)
  rw [hg, zcV_some a1]
  rcases a3 with ⟨f, j, d1, d2, d3⟩ | ⟨j, c, d1, d2, d3, d4, d5⟩
  · refine ⟨M1, ?_, a2, Or.inl ⟨f, j, d1, d2, noO_in d3 (bd_le (by omega)) (pn_bin h4)⟩⟩
    rw [zfu_s, hf _ _ (rF_ne d2 d3.2.1)]
  · have hO : okO (tk N b) (tv N b) t i j out c kn op := okO_in d3 (bd_le (by omega)) lb_le (pn_bin h4) (fun _ _ => by omega)
    obtain ⟨M2, e1, e2, e3⟩ := loop_E ht hz0 h4 hE hL hf (i0 := i) (kn := kn) (op := op) (out := out) (by omega) z zFu M1 j c (by omega) (by unfold zFu; omega) d2 d1 hO d4 d5
    exact ⟨M2, e1, a2.tr e2, e3⟩
/-! signs -/
theorem cv_all : (List.range 39).all (fun K => decide (lev K < 4) || decide (cvS (rVa K) = nI K)) = true := by decide +kernel
theorem cv_at {K : Nat} (hK : K ≤ 38) (h : 4 ≤ lev K) : cvS (rVa K) = nI K := by
  have a := List.all_eq_true.mp cv_all K (List.mem_range.mpr (by omega))
  rw [decide_eq_false (show ¬ lev K < 4 by omega), Bool.false_or] at a
  exact of_decide_eq_true a
theorem lvT_all : (List.range 39).all (fun K => decide (lev K = 1 ↔ K = 26) && decide (lev K = 2 ↔ K = 27) && decide (lev K = 5 ↔ (K = 35 ∨ K = 36)) && decide (lev K = 6 ↔ (K = 37 ∨ K = 38)) && decide (lev K = 4 ↔ (29 ≤ K ∧ K ≤ 34)) && decide (lev K ≤ 6) && decide (lev K = 3 ↔ K = 28)) = true := by decide +kernel
theorem lvT_at {K : Nat} (hK : K ≤ 38) : (lev K = 1 ↔ K = 26) ∧ (lev K = 2 ↔ K = 27) ∧ (lev K = 5 ↔ (K = 35 ∨ K = 36)) ∧ (lev K = 6 ↔ (K = 37 ∨ K = 38)) ∧ (lev K = 4 ↔ (29 ≤ K ∧ K ≤ 34)) ∧ lev K ≤ 6 ∧ (lev K = 3 ↔ K = 28) := by
  have a := List.all_eq_true.mp lvT_all K (List.mem_range.mpr (by omega))
  rw [Bool.and_eq_true, Bool.and_eq_true, Bool.and_eq_true, Bool.and_eq_true, Bool.and_eq_true, Bool.and_eq_true] at a
  obtain ⟨⟨⟨⟨⟨⟨a1, a2⟩, a3⟩, a4⟩, a5⟩, a6⟩, a7⟩ := a
  exact ⟨of_decide_eq_true a1, of_decide_eq_true a2, of_decide_eq_true a3, of_decide_eq_true a4, of_decide_eq_true a5, of_decide_eq_true a6, of_decide_eq_true a7⟩
theorem hL0 {N k : Nat} {b : Nat → Nat} (ht : tB N b) (rc : zM → Option zM) (M : zM) (i : Nat) (h0 : M.1 98 26 = 0) (h : mAt M N b i) : (lev (tk N b i) = lb 0 → ∃ w, cvS w = nI (tk N b i) ∧ gX10_expression_L4 (gGE k) rc M = gBin (gGE k) (0 + 1) w rc M) ∧ (lev (tk N b i) ≠ lb 0 → gX10_expression_L4 (gGE k) rc M = some M) := by
  have l := lvT_at (tk_38 ht i)
  unfold gX10_expression_L4
  rw [zcI_some (m_isW ht h0 h wt12)]
  refine ⟨fun e => ⟨262, ?_, ?_⟩, fun e => ?_⟩
  · rw [l.1.mp e]; decide
  · rw [decide_eq_true (l.1.mp e), if_neg (by decide)]
    rfl
  · rw [decide_eq_false (fun w => e (l.1.mpr w)), if_pos b2i_f]
theorem hL1 {N k : Nat} {b : Nat → Nat} (ht : tB N b) (rc : zM → Option zM) (M : zM) (i : Nat) (h0 : M.1 98 26 = 0) (h : mAt M N b i) : (lev (tk N b i) = lb 1 → ∃ w, cvS w = nI (tk N b i) ∧ gX10_conjunction_L4 (gGE k) rc M = gBin (gGE k) (1 + 1) w rc M) ∧ (lev (tk N b i) ≠ lb 1 → gX10_conjunction_L4 (gGE k) rc M = some M) := by
  have l := lvT_at (tk_38 ht i)
  unfold gX10_conjunction_L4
  rw [zcI_some (m_isW ht h0 h wt13)]
  refine ⟨fun e => ⟨261, ?_, ?_⟩, fun e => ?_⟩
  · rw [l.2.1.mp e]; decide
  · rw [decide_eq_true (l.2.1.mp e), if_neg (by decide)]
    rfl
  · rw [decide_eq_false (fun w => e (l.2.1.mpr w)), if_pos b2i_f]
theorem rv_at {M : zM} {N i : Nat} {b : Nat → Nat} (h : mAt M N b i) (h4 : 4 ≤ tk N b i) : M.1 98 25 = rVa (tk N b i) := h.2.2.2.2.2.2 h4
theorem hL3 {N k : Nat} {b : Nat → Nat} (ht : tB N b) (rc : zM → Option zM) (M : zM) (i : Nat) (h0 : M.1 98 26 = 0) (h : mAt M N b i) : (lev (tk N b i) = lb 3 → ∃ w, cvS w = nI (tk N b i) ∧ gX10_sum_L4 (gGE k) rc M = gBin (gGE k) (3 + 1) w rc M) ∧ (lev (tk N b i) ≠ lb 3 → gX10_sum_L4 (gGE k) rc M = some M) := by
  have h38 := tk_38 ht i
  have l := (lvT_at h38).2.2.1
  unfold gX10_sum_L4
  rw [zcI_some (m_isS ht h0 h st43), zcI_some (m_isS ht h0 h st45)]
  refine ⟨fun e => ⟨M.1 98 25, ?_, ?_⟩, fun e => ?_⟩
  · have e' : lev (tk N b i) = 5 := e
    rw [rv_at h (by have := l.mp e; omega)]
    exact cv_at h38 (by omega)
  · rcases l.mp e with w | w
    · rw [decide_eq_true w, if_neg (by decide)]
      rfl
    · rw [decide_eq_false (show ¬ tk N b i = 35 by omega), if_pos b2i_f, decide_eq_true w, if_neg (by decide)]
      rfl
  · rw [decide_eq_false (fun w => e (l.mpr (Or.inl w))), if_pos b2i_f, decide_eq_false (fun w => e (l.mpr (Or.inr w))), if_pos b2i_f]
theorem hL4 {N k : Nat} {b : Nat → Nat} (ht : tB N b) (rc : zM → Option zM) (M : zM) (i : Nat) (h0 : M.1 98 26 = 0) (h : mAt M N b i) : (lev (tk N b i) = lb 4 → ∃ w, cvS w = nI (tk N b i) ∧ gX10_product_L4 (gGE k) rc M = gBin (gGE k) (4 + 1) w rc M) ∧ (lev (tk N b i) ≠ lb 4 → gX10_product_L4 (gGE k) rc M = some M) := by
  have h38 := tk_38 ht i
  have l := (lvT_at h38).2.2.2.1
  unfold gX10_product_L4
  rw [zcI_some (m_isS ht h0 h st42), zcI_some (m_isS ht h0 h st47)]
  refine ⟨fun e => ⟨M.1 98 25, ?_, ?_⟩, fun e => ?_⟩
  · have e' : lev (tk N b i) = 6 := e
    rw [rv_at h (by have := l.mp e; omega)]
    exact cv_at h38 (by omega)
  · rcases l.mp e with w | w
    · rw [decide_eq_true w, if_neg (by decide)]
      rfl
    · rw [decide_eq_false (show ¬ tk N b i = 37 by omega), if_pos b2i_f, decide_eq_true w, if_neg (by decide)]
      rfl
  · rw [decide_eq_false (fun w => e (l.mpr (Or.inl w))), if_pos b2i_f, decide_eq_false (fun w => e (l.mpr (Or.inr w))), if_pos b2i_f]
theorem cm_all : (List.range 39).all (fun K => !(decide ((4 ≤ K ∧ K ≤ 6) ∨ 29 ≤ K)) || decide ((rVa K = 60 ∨ rVa K = 62 ∨ rVa K = 61 ∨ 256 ≤ rVa K) ↔ lev K = 4)) = true := by decide +kernel
theorem m_cmp {M : zM} {N i : Nat} {b : Nat → Nat} {A B : Option zM} (ht : tB N b) (h : mAt M N b i) : (if (M.1 98 24) = 3 then (if (M.1 98 25) = 60 then A else (if (M.1 98 25) = 62 then A else (if (M.1 98 25) = 61 then A else (if 256 ≤ (M.1 98 25) then A else B)))) else B) = if lev (tk N b i) = 4 then A else B := by
  have h38 := tk_38 ht i
  have l := (lvT_at h38).2.2.2.2.1
  have s := (rSo_at h38).2.1
  rw [h.2.2.2.1]
  by_cases w7 : (4 ≤ tk N b i ∧ tk N b i ≤ 6) ∨ 29 ≤ tk N b i
  · have a := List.all_eq_true.mp cm_all (tk N b i) (List.mem_range.mpr (by omega))
    rw [decide_eq_true w7, Bool.not_true, Bool.false_or] at a
    have c := of_decide_eq_true a
    rw [if_pos (s.mpr w7), rv_at h (by omega)]
    by_cases e : lev (tk N b i) = 4
    · rw [if_pos e]
      have d := c.mpr e
      by_cases c1 : rVa (tk N b i) = 60
      · rw [if_pos c1]
      rw [if_neg c1]
      by_cases c2 : rVa (tk N b i) = 62
      · rw [if_pos c2]
      rw [if_neg c2]
      by_cases c3 : rVa (tk N b i) = 61
      · rw [if_pos c3]
      rw [if_neg c3]
      rcases d with d | d | d | d
      · exact absurd d c1
      · exact absurd d c2
      · exact absurd d c3
      · rw [if_pos d]
    · rw [if_neg e, if_neg (fun z => e (c.mp (Or.inl z))), if_neg (fun z => e (c.mp (Or.inr (Or.inl z)))), if_neg (fun z => e (c.mp (Or.inr (Or.inr (Or.inl z))))), if_neg (fun z => e (c.mp (Or.inr (Or.inr (Or.inr z)))))]
  · rw [if_neg (fun z => w7 (s.mp z)), if_neg (fun z => w7 (by have := l.mp z; omega))]
theorem neg_E {N z k : Nat} {b : Nat → Nat} (ht : tB N b) (hz0 : tk N b z = 0) (h2 : EP N z b k 2) (h3 : EP N z b k 3) : EP N z b (k + 1) 2 := by
  intro M i out kn op hS hi hfu
  have h38 := tk_38 ht i
  show ∃ M', bX10_negation (gGE k) M = some M' ∧ _
  unfold bX10_negation
  rw [zcI_some (m_isW ht hS.1 hS.2.1 wt14)]
  by_cases h28 : tk N b i = 28
  · have hiz : i < z := by
      rcases Nat.lt_or_ge i z with w | w
      · exact w
      · rw [show i = z by omega, hz0] at h28; omega
    rw [decide_eq_true h28, if_neg (by decide)]
    show ∃ M', gBin (gGE k) 2 260 (fun M19_ => some M19_) M = some M' ∧ _
    rcases gBin_run ht h2 hS hiz (by omega) (by omega) (cvK_s (w := 260) (K := 28) (by decide)) (fun M19_ => some M19_) with ⟨hk, M', g1, g2, g3⟩ | ⟨hk, ⟨M', f, j, g0, g1, g2, g3, g4⟩ | ⟨M', j, c1, g0, g1, g2, g3, g4, g5, g6⟩⟩
    · exact ⟨M', g1, g3, Or.inl ⟨2, i, hi, g2, not_no h28 hk⟩⟩
    · exact ⟨M', g1, g2, Or.inl ⟨f, j, g0, g3, not_no1 h28 hk g4⟩⟩
    · refine ⟨M', g1, g2, Or.inr ⟨j, c1 ++ [(nI 28, 0)], g0, ?_, not_ok h28 hk g4, g5, wfc_n g6⟩⟩
      rw [List.append_assoc] at g3
      rw [show kn + (c1 ++ [((nI 28, 0) : Int32 × Int32)]).length = kn + 1 + c1.length by rw [List.length_append]; show kn + (c1.length + 1) = _; omega]
      exact g3
  · rw [decide_eq_false h28, if_pos b2i_f]
    obtain ⟨M3, a1, a2, a3⟩ := h3 M i out kn op hS hi (by omega)
    have hp : ∀ pn, pnOk (tk N b) 2 pn i → pnOk (tk N b) 3 pn i := fun pn _ => by unfold pnOk; rw [if_neg (by decide)]; exact Or.inr h28
    rw [zcV_some a1]
    rcases a3 with ⟨f, j, d1, d2, d3⟩ | ⟨j, c, d1, d2, d3, d4, d5⟩
    · rw [if_neg (rF_ne d2 d3.2.1)]
      exact ⟨M3, rfl, a2, Or.inl ⟨f, j, d1, d2, noO_in d3 (by decide) hp⟩⟩
    · rw [if_pos d2.1, m_cmp ht d2.2.1]
      by_cases l4 : lev (tk N b j) = 4
      · rw [if_pos l4]
        have hjz : j < z := by
          rcases Nat.lt_or_ge j z with w | w
          · exact w
          · rw [show j = z by omega, hz0, lev0] at l4; omega
        have j38 := tk_38 ht j
        have hw : cvS (M3.1 98 25) = nI (tk N b j) := by
          rw [rv_at d2.2.1 (by have := (lvT_at j38).2.2.2.2.1.mp l4; omega)]
          exact cv_at j38 (by omega)
        have hb := lev_bin j38 (by omega) (by omega)
        show ∃ M', gBin (gGE k) 3 (M3.1 98 25) (fun M11_ => some M11_) M3 = some M' ∧ _
        rcases gBin_run ht h3 d2 hjz (by omega) (by omega) (cvK_s hw) (fun M11_ => some M11_) with ⟨hk, M', g1, g2, g3⟩ | ⟨hk, ⟨M', f, l, g0, g1, g2, g3, g4⟩ | ⟨M', l, c1, g0, g1, g2, g3, g4, g5, g6⟩⟩
        · exact ⟨M', g1, a2.tr g3, Or.inl ⟨2, j, d1, g2, cmp_no h28 l4 d3 hk⟩⟩
        · exact ⟨M', g1, a2.tr g2, Or.inl ⟨f, l, g0, g3, cmp_no1 h28 l4 d3 hk g4⟩⟩
        · refine ⟨M', g1, a2.tr g2, Or.inr ⟨l, c ++ c1 ++ [(nI (tk N b j), 0)], g0, ?_, cmp_ok h28 l4 d3 hk g4, ?_, wfc_2 d5 g6 hb.1 hb.2⟩⟩
          · have e1 : out ++ c ++ c1 ++ [(nI (tk N b j), (0 : Int32))] = out ++ (c ++ c1 ++ [(nI (tk N b j), 0)]) := by simp [List.append_assoc]
            have e2 : kn + c.length + 1 + c1.length = kn + (c ++ c1 ++ [((nI (tk N b j), 0) : Int32 × Int32)]).length := by
              rw [List.length_append, List.length_append]; show _ = kn + (c.length + c1.length + 1); omega
            rw [e1, e2] at g3
            exact g3
          · unfold nxt at g5 ⊢
            have e1 : bd 3 = 5 := rfl
            have e2 : bd 2 = 4 := rfl
            omega
      · rw [if_neg l4]
        refine ⟨M3, rfl, a2, Or.inr ⟨j, c, d1, d2, okO_in d3 (by decide) (by decide) hp (fun _ w => absurd w l4), ?_, d5⟩⟩
        unfold nxt at d4 ⊢
        have e1 : bd 3 = 5 := rfl
        have e2 : bd 2 = 4 := rfl
        omega
/-! a primary -/
theorem sgK_out {c : Nat} {x : Int32} : ¬ (7 ≤ (sgK c x).1 ∧ (sgK c x).1 ≤ 28) := by
  unfold sgK
  repeat' split
  all_goals simp
theorem tv_word {N : Nat} {b : Nat → Nat} {i : Nat} (h : 7 ≤ tk N b i ∧ tk N b i ≤ 28) : tv N b i = zc2 (tk N b i - 7) := by
  unfold tk at h ⊢
  unfold tv
  generalize pl N b i = p at h ⊢
  unfold tkK at h ⊢
  unfold tkV
  by_cases hp : p < N
  · rw [if_pos hp] at h ⊢
    rw [if_pos hp]
    cases hl : isLt b p with
    | true =>
      rw [hl] at h
      simp only [if_true] at h ⊢
      generalize enP (isLt b) N p - p = l at h ⊢
      unfold wdK at h ⊢
      by_cases l6 : l ≤ 6
      · rw [if_pos l6] at h ⊢
        rw [if_pos l6]
        cases e : ffst (fun n => zc2 n == nI (lw b p l)) 22 with
        | none => rw [e] at h; exact absurd h (by decide)
        | some n =>
          have := (ffst_some e).2.1
          have q : zc2 n = nI (lw b p l) := by simpa using this
          show _ = zc2 (7 + n - 7)
          rw [show 7 + n - 7 = n by omega, q]
      · rw [if_neg l6] at h; exact absurd h (by decide)
    | false =>
      rw [hl] at h
      simp only [Bool.false_eq_true, if_false] at h ⊢
      cases hd : isDg b p with
      | true => rw [hd] at h; simp only [if_true] at h; exact absurd h (by decide)
      | false =>
        rw [hd] at h
        simp only [Bool.false_eq_true, if_false] at h
        exact absurd h sgK_out
  · rw [if_neg hp] at h; exact absurd h (by decide)
theorem nm_all : (List.range 39).all (fun K => (decide (7 ≤ K ∧ K ≤ 28 ∧ 15 ≤ rVa K ↔ 19 ≤ K ∧ K ≤ 25)) && (!(decide (19 ≤ K ∧ K ≤ 25)) || decide (rVa K - 15 = nI (K - 19) ∧ 19 + nI (K - 19) = nI K ∧ nI K ≠ 28 ∧ nI K < 26))) = true := by decide +kernel
theorem nm_at {K : Nat} (hK : K ≤ 38) : ((7 ≤ K ∧ K ≤ 28 ∧ 15 ≤ rVa K) ↔ (19 ≤ K ∧ K ≤ 25)) ∧ (19 ≤ K ∧ K ≤ 25 → rVa K - 15 = nI (K - 19) ∧ 19 + nI (K - 19) = nI K ∧ nI K ≠ 28 ∧ nI K < 26) := by
  have a := List.all_eq_true.mp nm_all K (List.mem_range.mpr (by omega))
  rw [Bool.and_eq_true] at a
  refine ⟨of_decide_eq_true a.1, fun h => ?_⟩
  have c := a.2
  rw [decide_eq_true h, Bool.not_true, Bool.false_or] at c
  exact of_decide_eq_true c
theorem rS.op {M : zM} {N i kn op op' : Nat} {b : Nat → Nat} {out : List (Int32 × Int32)} (h : rS M N b i out kn op) (h8 : op' ≤ 8) : rS (zI M 98 30 (nI op')) N b i out kn op' ∧ FE M (zI M 98 30 (nI op')) := by
  obtain ⟨h0, h1, h2, h3, h4, h5, h6, h7⟩ := h
  exact ⟨⟨by rw [zI_of (by omega)]; exact h0, h1.mono (zI_of (by omega)) (fun k _ _ => zI_of (by omega)) (fun k => zI_of (by omega)), zI_at, by rw [zI_of (by omega)]; exact h3, h4.mono (zI_of (by omega)) (fun k => zI_of (by omega)) (fun k => zI_of (by omega)), h5, h6, h8⟩, FE.put (by unfold FEc; omega)⟩
theorem nxt5 {K : Nat → Nat} {j : Nat} (h : K j ≤ 38) : nxt K 5 j := by
  have := (lvT_at h).2.2.2.2.2.1
  have e : bd 5 = 7 := rfl
  unfold nxt
  omega
/-- what follows a number or a name: KNOT, told, on -/
theorem atm_run {M : zM} {N i kn op : Nat} {b : Nat → Nat} {out : List (Int32 × Int32)} {x y : Int32} {q : Int32 × Int32} (ht : tB N b) (h : rS M N b i out kn op) (hk : kn < 64) (hq : cvK x y = q) (ho : okK (x, y)) : ∃ M3, gX10_knot M = some M3 ∧ M3.1 98 25 = M.1 98 25 ∧ ∃ M', zcV (gX10_puts x y M3) (fun M5_ => zcV (gX10_goOn M5_) (fun M7_ => some M7_)) = some M' ∧ FE M M' ∧ rS M' N b (i + 1) (out ++ [q]) (kn + 1) op := by
  have hl : out.length ≤ kn := h.2.2.2.2.2.1
  obtain ⟨M3, a1, a2, a3⟩ := m_knot h hk
  obtain ⟨M5, b1, b2, b3⟩ := m_puts a2 (by omega) hq ho
  obtain ⟨M7, c1, c2, c3⟩ := m_goOn ht b2
  refine ⟨M3, a1, ?_, M7, by rw [zcV_some b1, zcV_some c1], (a3.tr b3).tr c3, c2⟩
  unfold gX10_knot at a1
  rw [if_pos h.1, h.2.2.2.1, if_neg (by rw [show (64 : Int32) = nI 64 by decide, nI_eqs (by omega) (by omega)]; omega), zlet_eq] at a1
  have e := Option.some.inj a1
  rw [← e, zI_of (by omega)]
theorem J162_F {F : Nat → zM → Option zM} {x : Int32} {M : zM} (h : ¬ M.1 98 26 = 0) : gX10_primary_J162 F x M = some M := by
  have e : ∀ a c, gX10_primary_J194 F a c M = some M := fun a c => by
    unfold gX10_primary_J194
    rw [zcV_some (m_putsF h), zcV_some (m_goOnF h)]
  unfold gX10_primary_J162
  rw [zcV_some (m_knotFF h)]
  unfold gX10_primary_J176
  repeat' split
  all_goals exact e _ _
theorem J162_K {F : Nat → zM → Option zM} {x : Int32} {M : zM} {N i kn op : Nat} {b : Nat → Nat} {out : List (Int32 × Int32)} (h : rS M N b i out kn op) (hk : ¬ kn < 64) : ∃ M', gX10_primary_J162 F x M = some M' ∧ rF M' N b 2 i ∧ FE M M' := by
  obtain ⟨M3, a1, a2, a3⟩ := m_knotF h hk
  have ne := rF_ne a2 (Or.inr rfl)
  have e : ∀ a c, gX10_primary_J194 F a c M3 = some M3 := fun a c => by
    unfold gX10_primary_J194
    rw [zcV_some (m_putsF ne), zcV_some (m_goOnF ne)]
  refine ⟨M3, ?_, a2, a3⟩
  unfold gX10_primary_J162
  rw [zcV_some a1]
  unfold gX10_primary_J176
  repeat' split
  all_goals exact e _ _
theorem pri_E {N z k : Nat} {b : Nat → Nat} (ht : tB N b) (hz0 : tk N b z = 0) (h0 : EP N z b k 0) : EP N z b (k + 1) 5 := by
  intro M i out kn op hS hi hfu
  have h38 := tk_38 ht i
  have h8 : op ≤ 8 := hS.2.2.2.2.2.2.2
  have h64 : kn ≤ 64 := hS.2.2.2.2.2.2.1
  have inz : tk N b i ≠ 0 → i < z := fun w => by
    rcases Nat.lt_or_ge i z with q | q
    · exact q
    · rw [show i = z by omega] at w; exact absurd hz0 w
  show ∃ M', bX10_primary (gGE k) M = some M' ∧ _
  unfold bX10_primary
  rw [if_pos hS.1, zcI_some (m_isS ht hS.1 hS.2.1 st40)]
  by_cases h5 : tk N b i = 5
  · rw [decide_eq_true h5, if_neg (by decide), hS.2.2.1]
    by_cases ho : op < 8
    · rw [if_neg (by rw [nI_lit8, nI_eqs (by omega) (by omega)]; omega)]
      obtain ⟨s1, f1⟩ := hS.op (op' := op + 1) (by omega)
      obtain ⟨M15, b1, b2, b3⟩ := m_tokS ht s1
      obtain ⟨M17, c1, c2, c3⟩ := h0 M15 (i + 1) out kn (op + 1) b2 (inz (by omega)) (by omega)
      unfold gX10_primary_J31
      rw [if_pos hS.1, zlet_eq, hS.2.2.1, nI_1, zcV_some b1, zcV_some c1]
      rcases c3 with ⟨f, j, d1, d2, d3⟩ | ⟨j, c, d1, d2, d3, d4, d5⟩
      · have ne := rF_ne d2 d3.2.1
        rw [if_neg ne]
        unfold gX10_primary_J78
        rw [if_neg ne]
        exact ⟨M17, rfl, (f1.tr b3).tr c2, Or.inl ⟨f, j, d1, d2, par_no1 h5 ho d3⟩⟩
      · rw [if_pos d2.1, zcI_some (m_isS ht d2.1 d2.2.1 st41)]
        by_cases h6 : tk N b j = 6
        · have hjz : j < z := by
            rcases Nat.lt_or_ge j z with q | q
            · exact q
            · rw [show j = z by omega, hz0] at h6; omega
          rw [decide_eq_true h6, if_neg (by decide)]
          obtain ⟨s2, f2⟩ := d2.op (op' := op) (by omega)
          obtain ⟨M21, e1, e2, e3⟩ := m_tokS ht s2
          unfold gX10_primary_J78
          rw [if_pos d2.1, zlet_eq, d2.2.2.1, nI_dec, zcV_some e1]
          exact ⟨M21, rfl, (((f1.tr b3).tr c2).tr f2).tr e3, Or.inr ⟨j + 1, c, hjz, e2, par_ok h5 ho d3 h6, nxt5 (tk_38 ht _), d5⟩⟩
        · rw [decide_eq_false h6, if_pos b2i_f]
          obtain ⟨M25, e1, e2, e3⟩ := m_wrong 1 d2.1 d2.2.1
          rw [zcV_some (show gX10_wrong 1 M17 = _ from e1)]
          unfold gX10_primary_J78
          rw [if_neg (rF_ne e2 (Or.inl rfl))]
          exact ⟨M25, rfl, ((f1.tr b3).tr c2).tr (fr_w e3), Or.inl ⟨1, j, d1, e2, par_no2 h5 ho d3 d4 h6⟩⟩
    · rw [if_pos (by rw [show op = 8 by omega]; decide)]
      obtain ⟨M27, e1, e2, e3⟩ := m_wrong 2 hS.1 hS.2.1
      rw [zcV_some (show gX10_wrong 2 M = _ from e1)]
      unfold gX10_primary_J31
      rw [if_neg (rF_ne e2 (Or.inr rfl))]
      exact ⟨M27, rfl, fr_w e3, Or.inl ⟨2, i, hi, e2, par_no h5 ho⟩⟩
  · rw [decide_eq_false h5, if_pos b2i_f, hS.2.1.2.2.2.1]
    obtain ⟨t1, t2, t3, t4⟩ := hS.2.1.2.2.2
    by_cases h3 : tk N b i = 3
    · obtain ⟨x, y, ex, ey, hn⟩ := t3 h3
      have hiz := inz (by omega)
      have hy : y < 2 ^ 31 := by rcases hn with w | w <;> omega
      have hx : x < 2 ^ 31 := by rcases hn with w | w <;> omega
      rw [if_pos ((rSo_at h38).2.2.1.mpr h3)]
      unfold gX10_primary_J114
      rw [if_neg (by decide), ey, show (9999 : Int32) = nI 9999 by decide]
      by_cases y9 : y ≤ 9999
      · have hxy : x = y := by rcases hn with w | w <;> omega
        rw [if_pos (nI_le y9 (by omega))]
        unfold gX10_primary_J137
        rw [if_neg (by decide)]
        by_cases hk : kn < 64
        · have hq : cvK 0 (M.1 98 25) = (nI (tk N b i), tv N b i) := by
            unfold cvK
            rw [if_neg (by decide), if_pos rfl, h3, ey, ex, hxy]
            rfl
          obtain ⟨M3, a1, a2, M', a3, a4, a5⟩ := atm_run ht hS hk hq (Or.inr (Or.inl rfl))
          unfold gX10_primary_J162
          rw [zcV_some a1, if_neg (by decide)]
          unfold gX10_primary_J176
          rw [if_neg (by decide)]
          unfold gX10_primary_J194
          rw [a2, a3]
          have nn : ¬ ((tk N b i = 3 ∧ 9999 < tv N b i) ∨ 64 ≤ kn) := by
            rintro (w | w)
            · have := w.2
              rw [ex, show (9999 : Int32) = nI 9999 by decide, nI_lt_iff (by omega) hx] at this
              omega
            · omega
          refine ⟨M', rfl, a4, Or.inr ⟨i + 1, [(nI (tk N b i), tv N b i)], hiz, a5, atm_ok (Or.inl h3) nn, nxt5 (tk_38 ht _), wfc_1 ?_ ?_⟩⟩
          · rw [h3]; show ¬ nI 3 = 28; decide
          · rw [h3]; show nI 3 < 26; decide
        · obtain ⟨M', a1, a2, a3⟩ := J162_K (F := gGE k) (x := 1) hS hk
          rw [a1]
          exact ⟨M', rfl, a3, Or.inl ⟨2, i, hi, a2, atm_no (Or.inl h3) (Or.inr (by omega))⟩⟩
      · rw [if_neg (nI_ge (by omega) (by omega))]
        obtain ⟨M11, e1, e2, e3⟩ := m_wrong 2 hS.1 hS.2.1
        rw [zcV_some (show gX10_wrong 2 M = _ from e1), J162_F (rF_ne e2 (Or.inr rfl))]
        refine ⟨M11, rfl, fr_w e3, Or.inl ⟨2, i, hi, e2, atm_no (Or.inl h3) (Or.inl ⟨h3, ?_⟩)⟩⟩
        rw [ex, show (9999 : Int32) = nI 9999 by decide, nI_lt_iff (by omega) hx]
        rcases hn with w | w <;> omega
    · rw [if_neg (fun w => h3 ((rSo_at h38).2.2.1.mp w))]
      unfold gX10_primary_J114
      rw [if_pos rfl]
      unfold gX10_primary_J137
      rw [if_pos rfl, t1]
      obtain ⟨n1, n2⟩ := nm_at h38
      have bad : ¬ (19 ≤ tk N b i ∧ tk N b i ≤ 25) → ∃ M', gX10_primary_J157 (gGE k) 0 M = some M' ∧ FE M M' ∧ EO N z b 5 i out kn op M' := fun w => by
        obtain ⟨M9, e1, e2, e3⟩ := m_wrong 1 hS.1 hS.2.1
        unfold gX10_primary_J157
        rw [zcV_some (show gX10_wrong 1 M = _ from e1), J162_F (rF_ne e2 (Or.inl rfl))]
        exact ⟨M9, rfl, fr_w e3, Or.inl ⟨1, i, hi, e2, atm_bad h5 (by omega)⟩⟩
      by_cases w7 : 7 ≤ tk N b i ∧ tk N b i ≤ 28
      · rw [if_pos ((rSo_at h38).1.mpr w7), t4 (by omega)]
        by_cases w15 : 15 ≤ rVa (tk N b i)
        · rw [if_pos w15]
          have h19 := n1.mp ⟨w7.1, w7.2, w15⟩
          obtain ⟨m1, m2, m3, m4⟩ := n2 h19
          by_cases hk : kn < 64
          · have hq : cvK 1 ((M.1 98 25) - 15) = (nI (tk N b i), tv N b i) := by
              unfold cvK
              rw [if_neg (by decide), if_neg (by decide), t4 (by omega), m1, m2, nI_cl (by omega), show 12 + (tk N b i - 19) = tk N b i - 7 by omega, tv_word w7]
            obtain ⟨M3, a1, a2, M', a3, a4, a5⟩ := atm_run ht hS hk hq (Or.inr (Or.inr ⟨rfl, tk N b i - 19, by omega, by rw [t4 (by omega), m1]⟩))
            unfold gX10_primary_J162
            rw [zcV_some a1, if_pos rfl]
            unfold gX10_primary_J176
            rw [if_pos rfl]
            unfold gX10_primary_J194
            rw [a2, a3]
            exact ⟨M', rfl, a4, Or.inr ⟨i + 1, [(nI (tk N b i), tv N b i)], inz (by omega), a5, atm_ok (Or.inr h19) (by omega), nxt5 (tk_38 ht _), wfc_1 m3 m4⟩⟩
          · obtain ⟨M', a1, a2, a3⟩ := J162_K (F := gGE k) (x := 0) hS hk
            rw [a1]
            exact ⟨M', rfl, a3, Or.inl ⟨2, i, hi, a2, atm_no (Or.inr h19) (Or.inr (by omega))⟩⟩
        · rw [if_neg w15]
          exact bad (fun w => w15 (n1.mpr w).2.2)
      · rw [if_neg (fun w => w7 ((rSo_at h38).1.mp w))]
        exact bad (fun w => by omega)
theorem EP_all {N z : Nat} {b : Nat → Nat} (ht : tB N b) (hz0 : tk N b z = 0) (hz : z ≤ 700) : ∀ k t, t ≤ 5 → EP N z b k t := by
  intro k
  induction k with
  | zero =>
    intro t h5 M i out kn op hS hi hfu
    have h8 : op ≤ 8 := hS.2.2.2.2.2.2.2
    have h64 : kn ≤ 64 := hS.2.2.2.2.2.2.1
    omega
  | succ k ih =>
    intro t h5
    rcases (show t = 0 ∨ t = 1 ∨ t = 2 ∨ t = 3 ∨ t = 4 ∨ t = 5 by omega) with rfl | rfl | rfl | rfl | rfl | rfl
    · exact bin_E ht hz0 hz (by omega) (ih 1 (by omega)) (hL0 ht) (fun rc M h => l0_F h) (fun M => rfl)
    · exact bin_E ht hz0 hz (by omega) (ih 2 (by omega)) (hL1 ht) (fun rc M h => l1_F h) (fun M => rfl)
    · exact neg_E ht hz0 (ih 2 (by omega)) (ih 3 (by omega))
    · exact bin_E ht hz0 hz (by omega) (ih 4 (by omega)) (hL3 ht) (fun rc M h => l3_F h) (fun M => rfl)
    · exact bin_E ht hz0 hz (by omega) (ih 5 (by omega)) (hL4 ht) (fun rc M h => l4_F h) (fun M => rfl)
    · exact pri_E ht hz0 (ih 0 (by omega))
