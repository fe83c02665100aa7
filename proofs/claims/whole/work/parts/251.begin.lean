/-! what a copied fire looks like -/
theorem CF_98 {a i : Nat} : ¬ CF a 98 i := by unfold CF; omega
theorem vM_copied {M M' : zM} {n T a b : Nat} (hn : n ≤ 6) (hT : T ≤ 8) (h0 : ∀ x i, ¬ CF a x i → M'.1 x i = M.1 x i) (h1 : ∀ x, 118 ≤ x → x ≤ 122 → M'.1 x a = M.1 x b) (h2 : ∀ x k, 123 ≤ x → x ≤ 129 → k < 6 → M'.1 x (6 * a + k) = M.1 x (6 * b + k)) (h3 : ∀ x k, 130 ≤ x → x ≤ 131 → k < 8 → M'.1 x (8 * a + k) = M.1 x (8 * b + k)) : vM n T M' a = vM n T M b := by
  funext c k
  unfold vM
  by_cases hd : vdim n T c k = true
  · rw [if_pos hd, if_pos hd]
    have e : M'.1 (ma a c k).1 (ma a c k).2 = M.1 (ma b c k).1 (ma b c k).2 := by
      rcases vdim_cases hd with ⟨rfl, a1, a2⟩ | ⟨a1, a2, a3⟩ | ⟨a1, a2, a3⟩
      · rw [(ma_0 a1 a2).1, (ma_0 a1 a2).2, (ma_0 a1 a2).1, (ma_0 a1 a2).2]
        apply h1
        all_goals (repeat' split)
        all_goals omega
      · rw [(ma_m a1 a2).1, (ma_m a1 a2).2, (ma_m a1 a2).1, (ma_m a1 a2).2]
        apply h2
        · split <;> omega
        · split <;> omega
        · omega
      · rw [(ma_t a1 a2).1, (ma_t a1 a2).2, (ma_t a1 a2).1, (ma_t a1 a2).2]
        apply h3 <;> omega
    unfold vRd
    rw [e, h0 98 51 CF_98, h0 98 52 CF_98]
  · rw [if_neg hd, if_neg hd]
theorem ma_CF {n T a f c k : Nat} (hn : n ≤ 6) (hT : T ≤ 8) (hd : vdim n T c k = true) (hf : f ≠ a) : ¬ CF a (ma f c k).1 (ma f c k).2 := by
  unfold CF
  rcases vdim_cases hd with ⟨rfl, a1, a2⟩ | ⟨a1, a2, a3⟩ | ⟨a1, a2, a3⟩
  · rw [(ma_0 a1 a2).1, (ma_0 a1 a2).2]
    repeat' split
    all_goals omega
  · rw [(ma_m a1 a2).1, (ma_m a1 a2).2]
    split <;> omega
  · rw [(ma_t a1 a2).1, (ma_t a1 a2).2]
    omega
theorem vM_keeps {M M' : zM} {n T f : Nat} (h : ∀ c k, vdim n T c k = true → M'.1 (ma f c k).1 (ma f c k).2 = M.1 (ma f c k).1 (ma f c k).2) (h1 : M'.1 98 51 = M.1 98 51) (h2 : M'.1 98 52 = M.1 98 52) : vM n T M' f = vM n T M f := by
  funext c k
  unfold vM
  by_cases hd : vdim n T c k = true
  · rw [if_pos hd, if_pos hd]
    unfold vRd
    rw [h c k hd, h1, h2]
  · rw [if_neg hd, if_neg hd]
theorem vM_other {M M' : zM} {n T a f : Nat} (hn : n ≤ 6) (hT : T ≤ 8) (h0 : ∀ x i, ¬ CF a x i → M'.1 x i = M.1 x i) (hf : f ≠ a) : vM n T M' f = vM n T M f :=
  vM_keeps (fun c k hd => h0 _ _ (ma_CF hn hT hd hf)) (h0 98 51 CF_98) (h0 98 52 CF_98)
/-! a world begins -/
def sBegin (n T : Nat) (P : AV) : AV := fun c k => if vdim n T c k = true then (match c with
  | 0 => if k = 12 then P 12 0 else if k = 14 then P 12 4 else 0
  | 1 => nI k
  | 2 => P 3 k
  | 3 => 0
  | 4 => 0
  | 5 => -2
  | 6 => 0
  | 7 => 0
  | 8 => 0
  | _ => P 8 k) else 0
theorem s_begin {M : zM} {w p n T L : Nat} (hw : isW w) (hP : PlC M p n T L) :
    ∃ M', gX8_begin w p M = some M' ∧ (∀ a, ¬ (w ≤ a ∧ a ≤ w + 9) → M'.1 a = M.1 a) ∧ M'.2.1 = M.2.1 ∧ M'.2.2 = (zF M w 0 p).2.2 ∧ vC n T M' w = sBegin n T (pC n T L M p) ∧ M'.1 w 15 = 0 := by
  obtain ⟨hp, hn, hT, hL, hl⟩ := hP
  have a1 := isW_ge hw
  have a2 := isPl_lt hp
  unfold gX8_begin
  rw [zlet_eq]
  obtain ⟨s', N', ⟨e1, e2, e3, e4⟩, hz⟩ := zfix_inv (B := gX8_begin_L7 w p) (fun k (s : Int32 × zM) => s.1 = nI k ∧ (∀ a, ¬ (w + 1 ≤ a ∧ a ≤ w + 7) → s.2.1 a = M.1 a) ∧ s.2.2 = (zF M w 0 p).2 ∧ ∀ i, i < k → s.2.1 (w + 1) i = nI i ∧ s.2.1 (w + 2) i = M.1 (p + 3) i ∧ s.2.1 (w + 3) i = 0 ∧ s.2.1 (w + 4) i = 0 ∧ s.2.1 (w + 5) i = -2 ∧ s.2.1 (w + 6) i = 0 ∧ s.2.1 (w + 7) i = 0) 6 (by
    intro k hk s ⟨q1, q2, q3, q4⟩
    obtain ⟨i, Mk⟩ := s
    dsimp only at q1 q2 q3 q4
    subst q1
    have ev : Mk.1 (p + 3) = M.1 (p + 3) := q2 _ (by omega)
    refine ⟨(nI (k + 1), zI (zI (zI (zI (zI (zI (zI Mk (w + 1) k (nI k)) (w + 2) k (M.1 (p + 3) k)) (w + 3) k 0) (w + 4) k 0) (w + 5) k (-2)) (w + 6) k 0) (w + 7) k 0), ⟨rfl, fun a ha => ?_, q3, fun i hi => ?_⟩, fun rc => ?_⟩
    · dsimp only
      rw [zI_row_ne (by omega), zI_row_ne (by omega), zI_row_ne (by omega), zI_row_ne (by omega), zI_row_ne (by omega), zI_row_ne (by omega), zI_row_ne (by omega), q2 a ha]
    · dsimp only
      by_cases e : i = k
      · subst e
        refine ⟨?_, ?_, ?_, ?_, ?_, ?_, ?_⟩
        · rw [zI_of (by omega), zI_of (by omega), zI_of (by omega), zI_of (by omega), zI_of (by omega), zI_of (by omega), zI_at]
        · rw [zI_of (by omega), zI_of (by omega), zI_of (by omega), zI_of (by omega), zI_of (by omega), zI_at]
        · rw [zI_of (by omega), zI_of (by omega), zI_of (by omega), zI_of (by omega), zI_at]
        · rw [zI_of (by omega), zI_of (by omega), zI_of (by omega), zI_at]
        · rw [zI_of (by omega), zI_of (by omega), zI_at]
        · rw [zI_of (by omega), zI_at]
        · rw [zI_at]
      · have hq := q4 i (by omega)
        refine ⟨?_, ?_, ?_, ?_, ?_, ?_, ?_⟩ <;> rw [zI_of (by omega), zI_of (by omega), zI_of (by omega), zI_of (by omega), zI_of (by omega), zI_of (by omega), zI_of (by omega)]
        · exact hq.1
        · exact hq.2.1
        · exact hq.2.2.1
        · exact hq.2.2.2.1
        · exact hq.2.2.2.2.1
        · exact hq.2.2.2.2.2.1
        · exact hq.2.2.2.2.2.2
    · have o : ∀ (x : Int32), (zI Mk (w + 1) k x).1 (p + 3) k = M.1 (p + 3) k := fun x => by rw [zI_of (by omega), ev]
      unfold gX8_begin_L7
      dsimp only
      rw [nI_lit6, if_neg (nI_ge hk (by omega)), zg_true (zok_nI hk (by omega)), zlet_eq, nI_cl (by omega), zg_true (zok_nI hk (by omega)), zg_true (zok_nI hk (by omega)), zlet_eq, o, zg_true (zok_nI hk (by omega)), zlet_eq, zg_true (zok_nI hk (by omega)), zlet_eq, zg_true (zok_nI hk (by omega)), zlet_eq, zg_true (zok_nI hk (by omega)), zlet_eq, zg_true (zok_nI hk (by omega)), zlet_eq, nI_1]
      rfl) 6 0 zFu (0, zF M w 0 p) (by omega) (by unfold zFu; omega) ⟨nI_0.symm, fun _ _ => rfl, rfl, fun i hi => by omega⟩
  obtain ⟨i, M6⟩ := s'
  dsimp only at e1 e2 e3 e4
  subst e1
  rw [hz]
  unfold gX8_begin_L7
  dsimp only
  rw [nI_lit6, if_pos (nI_le (Nat.le_refl _) (by omega))]
  obtain ⟨s', N', ⟨k1, k2, k3, k4⟩, hz⟩ := zfix_inv (B := gX8_begin_L76 w p) (fun k (s : Int32 × zM) => s.1 = nI k ∧ (∀ a, ¬ (w + 8 ≤ a ∧ a ≤ w + 9) → s.2.1 a = M6.1 a) ∧ s.2.2 = M6.2 ∧ ∀ i, i < k → s.2.1 (w + 8) i = 0 ∧ s.2.1 (w + 9) i = M.1 (p + 8) i) 8 (by
    intro k hk s ⟨q1, q2, q3, q4⟩
    obtain ⟨i, Mk⟩ := s
    dsimp only at q1 q2 q3 q4
    subst q1
    have ev : Mk.1 (p + 8) = M.1 (p + 8) := by rw [q2 _ (by omega), e2 _ (by omega)]
    refine ⟨(nI (k + 1), zI (zI Mk (w + 8) k 0) (w + 9) k (M.1 (p + 8) k)), ⟨rfl, fun a ha => ?_, q3, fun i hi => ?_⟩, fun rc => ?_⟩
    · dsimp only
      rw [zI_row_ne (by omega), zI_row_ne (by omega), q2 a ha]
    · dsimp only
      by_cases e : i = k
      · subst e
        refine ⟨?_, ?_⟩
        · rw [zI_of (by omega), zI_at]
        · rw [zI_at]
      · have hq := q4 i (by omega)
        refine ⟨?_, ?_⟩ <;> rw [zI_of (by omega), zI_of (by omega)]
        · exact hq.1
        · exact hq.2
    · have o : ∀ (x : Int32), (zI Mk (w + 8) k x).1 (p + 8) k = M.1 (p + 8) k := fun x => by rw [zI_of (by omega), ev]
      unfold gX8_begin_L76
      dsimp only
      rw [nI_lit8, if_neg (nI_ge hk (by omega)), zg_true (zok_nI hk (by omega)), zlet_eq, nI_cl (by omega), zg_true (zok_nI hk (by omega)), zg_true (zok_nI hk (by omega)), zlet_eq, o, nI_1]) 8 0 zFu (0, M6) (by omega) (by unfold zFu; omega) ⟨nI_0.symm, fun _ _ => rfl, rfl, fun i hi => by omega⟩
  obtain ⟨i, M8⟩ := s'
  dsimp only at k1 k2 k3 k4
  subst k1
  rw [hz]
  unfold gX8_begin_L76
  dsimp only
  rw [nI_lit8, if_pos (nI_le (Nat.le_refl _) (by omega)), zlet_eq, zlet_eq, zlet_eq, zlet_eq, zlet_eq, zlet_eq, cl0, cl4]
  have es : M8.1 (p + 12) = M.1 (p + 12) := by rw [k2 _ (by omega), e2 _ (by omega)]
  refine ⟨_, rfl, fun a ha => ?_, ?_, ?_, ?_, zI_at⟩
  · rw [zI_row_ne (by omega), zI_row_ne (by omega), zI_row_ne (by omega), zI_row_ne (by omega), zI_row_ne (by omega), zI_row_ne (by omega), k2 a (by omega), e2 a (by omega)]
  · show M8.2.1 = M.2.1
    rw [k3, e3]; rfl
  · show M8.2.2 = _
    rw [k3, e3]
  · funext c k
    unfold sBegin
    by_cases hd : vdim n T c k = true
    · rw [vC_at hd, if_pos hd]
      rcases vdim_cases hd with ⟨rfl, b1, b2⟩ | ⟨b1, b2, b3⟩ | ⟨b1, b2, b3⟩
      · rw [pC_at (pdS (by omega)), pC_at (pdS (by omega))]
        rcases (show k = 10 ∨ k = 11 ∨ k = 12 ∨ k = 13 ∨ k = 14 by omega) with rfl | rfl | rfl | rfl | rfl
        · show (zI _ w 15 0).1 w 10 = 0
          rw [zI_of (by omega), zI_of (by omega), zI_of (by omega), zI_of (by omega), zI_of (by omega), zI_at]
        · show (zI _ w 15 0).1 w 11 = 0
          rw [zI_of (by omega), zI_of (by omega), zI_of (by omega), zI_of (by omega), zI_at]
        · show (zI _ w 15 0).1 w 12 = M.1 (p + 12) 0
          rw [zI_of (by omega), zI_of (by omega), zI_of (by omega), zI_at, zI_of (by omega), zI_of (by omega), es]
        · show (zI _ w 15 0).1 w 13 = 0
          rw [zI_of (by omega), zI_of (by omega), zI_at]
        · show (zI _ w 15 0).1 w 14 = M.1 (p + 12) 4
          rw [zI_of (by omega), zI_at, zI_of (by omega), zI_of (by omega), zI_of (by omega), zI_of (by omega), es]
      · have q := e4 k (by omega)
        rw [zI_row_ne (by omega), zI_row_ne (by omega), zI_row_ne (by omega), zI_row_ne (by omega), zI_row_ne (by omega), zI_row_ne (by omega), k2 _ (by omega)]
        rcases (show c = 1 ∨ c = 2 ∨ c = 3 ∨ c = 4 ∨ c = 5 ∨ c = 6 ∨ c = 7 by omega) with rfl | rfl | rfl | rfl | rfl | rfl | rfl
        · exact q.1
        · rw [q.2.1]; exact (pC_at (pdN (by omega) (by omega) b3)).symm
        · exact q.2.2.1
        · exact q.2.2.2.1
        · exact q.2.2.2.2.1
        · exact q.2.2.2.2.2.1
        · exact q.2.2.2.2.2.2
      · have q := k4 k (by omega)
        rw [zI_row_ne (by omega), zI_row_ne (by omega), zI_row_ne (by omega), zI_row_ne (by omega), zI_row_ne (by omega), zI_row_ne (by omega)]
        rcases (show c = 8 ∨ c = 9 by omega) with rfl | rfl
        · exact q.1
        · rw [q.2]; exact (pC_at (pdT (by omega) (by omega) b3)).symm
    · rw [if_neg hd]; unfold vC; rw [if_neg hd]
theorem r_J86 {M : zM} {f k : Nat} {y : Int32} {rc : (Int32 × zM) → Option zM} (hf : f < 23) (hk : k < 6) : gX10_starts_J86 (nI f) (nI k) (nI (6 * f + k)) (nI (6 * f + k)) y rc M = rc (nI (k + 1), zI (zI (zI (zI (zI (zI (zI M 123 (6 * f + k) y) 124 (6 * f + k) 0) 125 (6 * f + k) 0) 126 (6 * f + k) (-1)) 127 (6 * f + k) 0) 128 (6 * f + k) 0) 129 (6 * f + k) (nI k)) := by
  have h : zok (nI (6 * f + k)) 138 = true := zok_nI (by omega) (by omega)
  unfold gX10_starts_J86
  rw [zg_true h, zlet_eq, zg_true h, zlet_eq, zg_true h, zlet_eq, zg_true h, zlet_eq, zg_true h, zlet_eq, zg_true h, zlet_eq, zg_true h, zlet_eq, nI_1, nI_cl (by omega)]
theorem r_starts {M : zM} {n T L f : Nat} (hM : MC M n T L) (hf : f < 23) (ht : M.1 98 51 = 0) :
    ∃ M', gX10_starts (nI f) M = some M' ∧ M'.2 = M.2 ∧ (∀ x i, ¬ CF f x i → M'.1 x i = M.1 x i) ∧ vM n T M' f = sBegin n T (pM n T L M) := by
  obtain ⟨hn, hT, hL, hl⟩ := hM
  have hf31 : f < 2 ^ 31 := by omega
  unfold gX10_starts
  rw [zg_true (zok_nI hf (by omega)), zlet_eq, zg_true (zok_nI hf (by omega)), zlet_eq, zg_true (zok_nI hf (by omega)), zlet_eq, zg_true (zok_nI hf (by omega)), zlet_eq, zg_true (zok_nI hf (by omega)), zlet_eq, nI_cl hf31, show (7 : Int32).toNatClampNeg = 7 from rfl, cl3]
  have hM5 : ∃ M5 : zM, M5 = (zI (zI (zI (zI (zI M 118 f 0) 119 f ((zI M 118 f 0).1 100 7)) 120 f 0) 121 f ((zI (zI (zI M 118 f 0) 119 f ((zI M 118 f 0).1 100 7)) 120 f 0).1 100 3)) 122 f 0) := ⟨_, rfl⟩
  obtain ⟨M5, h5⟩ := hM5
  rw [← h5]
  have o5 : ∀ x i, ¬ (118 ≤ x ∧ x ≤ 122 ∧ i = f) → M5.1 x i = M.1 x i := by
    intro x i h
    rw [h5, zI_of (by omega), zI_of (by omega), zI_of (by omega), zI_of (by omega), zI_of (by omega)]
  have c5 : M5.1 118 f = 0 ∧ M5.1 119 f = M.1 100 7 ∧ M5.1 120 f = 0 ∧ M5.1 121 f = M.1 100 3 ∧ M5.1 122 f = 0 := by
    rw [h5]
    refine ⟨?_, ?_, ?_, ?_, ?_⟩
    · rw [zI_of (by omega), zI_of (by omega), zI_of (by omega), zI_of (by omega), zI_at]
    · rw [zI_of (by omega), zI_of (by omega), zI_of (by omega), zI_at, zI_of (by omega)]
    · rw [zI_of (by omega), zI_of (by omega), zI_at]
    · rw [zI_of (by omega), zI_at, zI_of (by omega), zI_of (by omega), zI_of (by omega)]
    · rw [zI_at]
  have l5 : M5.2 = M.2 := by rw [h5]; rfl
  clear h5
  obtain ⟨s', N', ⟨e1, e2, e3, e4⟩, hz⟩ := zfix_inv (B := gX10_starts_L48 (nI f)) (fun k (s : Int32 × zM) => s.1 = nI k ∧ (∀ x i, ¬ (123 ≤ x ∧ x ≤ 129 ∧ 6 * f ≤ i ∧ i < 6 * f + 6) → s.2.1 x i = M5.1 x i) ∧ s.2.2 = M.2 ∧ ∀ i, i < k → (i < n → s.2.1 123 (6 * f + i) = M.1 103 i) ∧ s.2.1 124 (6 * f + i) = 0 ∧ s.2.1 125 (6 * f + i) = 0 ∧ s.2.1 126 (6 * f + i) = -1 ∧ s.2.1 127 (6 * f + i) = 0 ∧ s.2.1 128 (6 * f + i) = 0 ∧ s.2.1 129 (6 * f + i) = nI i) 6 (by
    intro k hk s ⟨q1, q2, q3, q4⟩
    obtain ⟨i, Mk⟩ := s
    dsimp only at q1 q2 q3 q4
    subst q1
    have en : Mk.1 100 0 = nI n := by rw [q2 100 0 (by omega), o5 _ _ (by omega)]; exact hn.1
    have ev : Mk.1 103 k = M.1 103 k := by rw [q2 _ _ (by omega), o5 _ _ (by omega)]
    have main : ∀ y : Int32, (k < n → y = M.1 103 k) → (fun (k : Nat) (s : Int32 × zM) => s.1 = nI k ∧ (∀ x i, ¬ (123 ≤ x ∧ x ≤ 129 ∧ 6 * f ≤ i ∧ i < 6 * f + 6) → s.2.1 x i = M5.1 x i) ∧ s.2.2 = M.2 ∧ ∀ i, i < k → (i < n → s.2.1 123 (6 * f + i) = M.1 103 i) ∧ s.2.1 124 (6 * f + i) = 0 ∧ s.2.1 125 (6 * f + i) = 0 ∧ s.2.1 126 (6 * f + i) = -1 ∧ s.2.1 127 (6 * f + i) = 0 ∧ s.2.1 128 (6 * f + i) = 0 ∧ s.2.1 129 (6 * f + i) = nI i) (k + 1) (nI (k + 1), zI (zI (zI (zI (zI (zI (zI Mk 123 (6 * f + k) y) 124 (6 * f + k) 0) 125 (6 * f + k) 0) 126 (6 * f + k) (-1)) 127 (6 * f + k) 0) 128 (6 * f + k) 0) 129 (6 * f + k) (nI k)) := by
      intro y hy
      refine ⟨rfl, fun a i ha => ?_, q3, fun i hi => ?_⟩
      · dsimp only
        rw [zI_of (by omega), zI_of (by omega), zI_of (by omega), zI_of (by omega), zI_of (by omega), zI_of (by omega), zI_of (by omega), q2 a i ha]
      · dsimp only
        by_cases e : i = k
        · subst e
          refine ⟨fun hin => ?_, ?_, ?_, ?_, ?_, ?_, ?_⟩
          · rw [zI_of (by omega), zI_of (by omega), zI_of (by omega), zI_of (by omega), zI_of (by omega), zI_of (by omega), zI_at, hy hin]
          · rw [zI_of (by omega), zI_of (by omega), zI_of (by omega), zI_of (by omega), zI_of (by omega), zI_at]
          · rw [zI_of (by omega), zI_of (by omega), zI_of (by omega), zI_of (by omega), zI_at]
          · rw [zI_of (by omega), zI_of (by omega), zI_of (by omega), zI_at]
          · rw [zI_of (by omega), zI_of (by omega), zI_at]
          · rw [zI_of (by omega), zI_at]
          · rw [zI_at]
        · have hq := q4 i (by omega)
          refine ⟨fun hin => ?_, ?_, ?_, ?_, ?_, ?_, ?_⟩ <;> rw [zI_of (by omega), zI_of (by omega), zI_of (by omega), zI_of (by omega), zI_of (by omega), zI_of (by omega), zI_of (by omega)]
          · exact hq.1 hin
          · exact hq.2.1
          · exact hq.2.2.1
          · exact hq.2.2.2.1
          · exact hq.2.2.2.2.1
          · exact hq.2.2.2.2.2.1
          · exact hq.2.2.2.2.2.2
    by_cases hkn : k < n
    · refine ⟨_, main (M.1 103 k) (fun _ => rfl), fun rc => ?_⟩
      unfold gX10_starts_L48
      dsimp only
      rw [nI_lit6, if_neg (nI_ge hk (by omega)), cl0, en, if_neg (nI_ge hkn (by omega)), zg_true (zok_nI (show k < 12 by omega) (by omega)), ← nI_lit6, nI_6, nI_cl (show k < 2 ^ 31 by omega), ev, r_J86 hf hk]
    · refine ⟨_, main 0 (fun h => absurd h hkn), fun rc => ?_⟩
      unfold gX10_starts_L48
      dsimp only
      rw [nI_lit6, if_neg (nI_ge hk (by omega)), cl0, en, if_pos (nI_le (by omega) (by omega)), ← nI_lit6, nI_6, r_J86 hf hk]) 6 0 zFu (0, M5) (by omega) (by unfold zFu; omega) ⟨nI_0.symm, fun _ _ _ => rfl, l5, fun i hi => by omega⟩
  obtain ⟨i, M6⟩ := s'
  dsimp only at e1 e2 e3 e4
  subst e1
  rw [hz]
  unfold gX10_starts_L48
  dsimp only
  rw [nI_lit6, if_pos (nI_le (Nat.le_refl _) (by omega))]
  obtain ⟨s', N', ⟨k1, k2, k3, k4⟩, hz⟩ := zfix_inv (B := gX10_starts_L137 (nI f)) (fun k (s : Int32 × zM) => s.1 = nI k ∧ (∀ x i, ¬ (130 ≤ x ∧ x ≤ 131 ∧ 8 * f ≤ i ∧ i < 8 * f + 8) → s.2.1 x i = M6.1 x i) ∧ s.2.2 = M.2 ∧ ∀ i, i < k → s.2.1 130 (8 * f + i) = 0 ∧ (i < T → s.2.1 131 (8 * f + i) = M.1 108 i)) 8 (by
    intro k hk s ⟨q1, q2, q3, q4⟩
    obtain ⟨i, Mk⟩ := s
    dsimp only at q1 q2 q3 q4
    subst q1
    have en : ∀ y, (zI Mk 130 (8 * f + k) y).1 100 1 = nI T := fun y => by rw [zI_of (by omega), q2 100 1 (by omega), e2 _ _ (by omega), o5 _ _ (by omega)]; exact hT.1
    have ev : ∀ y, (zI Mk 130 (8 * f + k) y).1 108 k = M.1 108 k := fun y => by rw [zI_of (by omega), q2 _ _ (by omega), e2 _ _ (by omega), o5 _ _ (by omega)]
    have main : ∀ y : Int32, (k < T → y = M.1 108 k) → (fun (k : Nat) (s : Int32 × zM) => s.1 = nI k ∧ (∀ x i, ¬ (130 ≤ x ∧ x ≤ 131 ∧ 8 * f ≤ i ∧ i < 8 * f + 8) → s.2.1 x i = M6.1 x i) ∧ s.2.2 = M.2 ∧ ∀ i, i < k → s.2.1 130 (8 * f + i) = 0 ∧ (i < T → s.2.1 131 (8 * f + i) = M.1 108 i)) (k + 1) (nI (k + 1), zI (zI Mk 130 (8 * f + k) 0) 131 (8 * f + k) y) := by
      intro y hy
      refine ⟨rfl, fun a i ha => ?_, q3, fun i hi => ?_⟩
      · dsimp only
        rw [zI_of (by omega), zI_of (by omega), q2 a i ha]
      · dsimp only
        by_cases e : i = k
        · subst e
          refine ⟨?_, fun hin => ?_⟩
          · rw [zI_of (by omega), zI_at]
          · rw [zI_at, hy hin]
        · have hq := q4 i (by omega)
          refine ⟨?_, fun hin => ?_⟩ <;> rw [zI_of (by omega), zI_of (by omega)]
          · exact hq.1
          · exact hq.2 hin
    by_cases hkn : k < T
    · refine ⟨_, main (M.1 108 k) (fun _ => rfl), fun rc => ?_⟩
      unfold gX10_starts_L137
      dsimp only
      rw [nI_lit8, if_neg (nI_ge hk (by omega)), ← nI_lit8, nI_8, zg_true (zok_nI (show 8 * f + k < 184 by omega) (by omega)), zlet_eq, nI_cl (show 8 * f + k < 2 ^ 31 by omega), cl1, en, if_neg (nI_ge hkn (by omega)), zg_true (zok_nI (show k < 16 by omega) (by omega)), zg_true (zok_nI (show 8 * f + k < 184 by omega) (by omega)), zlet_eq, nI_cl (show k < 2 ^ 31 by omega), ev, nI_1]
    · refine ⟨_, main 0 (fun h => absurd h hkn), fun rc => ?_⟩
      unfold gX10_starts_L137
      dsimp only
      rw [nI_lit8, if_neg (nI_ge hk (by omega)), ← nI_lit8, nI_8, zg_true (zok_nI (show 8 * f + k < 184 by omega) (by omega)), zlet_eq, nI_cl (show 8 * f + k < 2 ^ 31 by omega), cl1, en, if_pos (nI_le (by omega) (by omega)), zg_true (zok_nI (show 8 * f + k < 184 by omega) (by omega)), zlet_eq, nI_1]) 8 0 zFu (0, M6) (by omega) (by unfold zFu; omega) ⟨nI_0.symm, fun _ _ _ => rfl, e3, fun i hi => by omega⟩
  obtain ⟨i, M8⟩ := s'
  dsimp only at k1 k2 k3 k4
  subst k1
  rw [hz]
  unfold gX10_starts_L137
  dsimp only
  rw [nI_lit8, if_pos (nI_le (Nat.le_refl _) (by omega))]
  have out : ∀ x i, ¬ CF f x i → M8.1 x i = M.1 x i := fun x i h => by
    unfold CF at h
    rw [k2 _ _ (by omega), e2 _ _ (by omega), o5 _ _ (by omega)]
  refine ⟨_, rfl, k3, out, ?_⟩
  funext c k
  unfold sBegin
  by_cases hd : vdim n T c k = true
  · rw [vM_at hd, if_pos hd]
    unfold vRd
    rw [out 98 51 CF_98, ht, if_neg (show ¬ (c = 7 ∧ (0 : Int32) = 2 ∧ _) from fun z => absurd z.2.1 (by decide))]
    rcases vdim_cases hd with ⟨rfl, b1, b2⟩ | ⟨b1, b2, b3⟩ | ⟨b1, b2, b3⟩
    · rw [if_neg (by omega), pM_at (pdS (by omega)), pM_at (pdS (by omega))]
      have g : ∀ x, 118 ≤ x → x ≤ 122 → M8.1 x f = M5.1 x f := fun x q1 q2 => by rw [k2 _ _ (by omega), e2 _ _ (by omega)]
      rcases (show k = 10 ∨ k = 11 ∨ k = 12 ∨ k = 13 ∨ k = 14 by omega) with rfl | rfl | rfl | rfl | rfl
      · exact (g 118 (by omega) (by omega)).trans c5.1
      · exact (g 120 (by omega) (by omega)).trans c5.2.2.1
      · exact (g 121 (by omega) (by omega)).trans c5.2.2.2.1
      · exact (g 122 (by omega) (by omega)).trans c5.2.2.2.2
      · exact (g 119 (by omega) (by omega)).trans c5.2.1
    · have q := e4 k (by omega)
      rw [(ma_m b1 b2).1, (ma_m b1 b2).2, k2 _ _ (by split <;> omega)]
      rcases (show c = 1 ∨ c = 2 ∨ c = 3 ∨ c = 4 ∨ c = 5 ∨ c = 6 ∨ c = 7 by omega) with rfl | rfl | rfl | rfl | rfl | rfl | rfl
      · exact q.2.2.2.2.2.2
      · show M6.1 123 (6 * f + k) = _
        rw [q.1 b3]; exact (pM_at (n := n) (T := T) (L := L) (M := M) (c := 3) (pdN (by omega) (by omega) b3)).symm
      · exact q.2.1
      · exact q.2.2.1
      · show gC (M6.1 126 (6 * f + k)) = _
        rw [q.2.2.2.1]; rfl
      · exact q.2.2.2.2.1
      · exact q.2.2.2.2.2.1
    · have q := k4 k (by omega)
      rw [if_neg (by omega), (ma_t b1 b2).1, (ma_t b1 b2).2]
      rcases (show c = 8 ∨ c = 9 by omega) with rfl | rfl
      · exact q.1
      · show M8.1 131 (8 * f + k) = _
        rw [q.2 b3]; exact (pM_at (n := n) (T := T) (L := L) (M := M) (c := 8) (pdT (by omega) (by omega) b3)).symm
  · rw [if_neg hd]; unfold vM; rw [if_neg hd]
