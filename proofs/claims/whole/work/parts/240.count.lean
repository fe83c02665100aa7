/-! counting -/
theorem s_things {M : zM} {w p n T L : Nat} {x : Int32} (hW : WC M w p n T L) : gX8_thingsThatAre w x M = some (nI (bcnt (fun t => vC n T M w 8 t == x) T)) := by
  have e : bcnt (fun t => vC n T M w 8 t == x) T = bcnt (fun t => M.1 (w + 8) t == x) T := bcnt_congr (fun t ht => by rw [vC_at (vdT (by omega) (by omega) ht)])
  rw [e]
  exact s_thingsThatAre hW.2.1 hW.2.2.1 hW.2.2.2.2.1.1 hW.2.2.2.2.1.2
theorem s_men {M : zM} {w p n T L : Nat} {x : Int32} (hW : WC M w p n T L) : gX8_menThatAre w x M = some (nI (bcnt (fun m => vC n T M w 4 m == x) n)) := by
  obtain ⟨h1, h2, hp, hn, hT, hL, hl⟩ := hW
  have e : bcnt (fun m => vC n T M w 4 m == x) n = bcnt (fun m => M.1 (w + 4) m == x) n := bcnt_congr (fun t ht => by rw [vC_at (vd (by omega) (by omega) ht)])
  rw [e]
  unfold gX8_menThatAre
  refine zfix_run (fun k => (nI (bcnt (fun t => M.1 (w + 4) t == x) k), nI k)) n ?_ (by unfold zFu; omega) ?_ ?_
  · simp [bcnt, nI_0]
  · intro k hk rc
    unfold gX8_menThatAre_L4
    rw [zgP_some h2 hp, hn.1, if_neg (nI_ge hk (by omega)), nI_lit6, if_neg (nI_ge (by omega) (by omega)), zg_true (zok_nI (by omega) (by omega)), nI_cl (by omega)]
    by_cases h : M.1 (w + 4) k = x
    · rw [if_pos h, nI_1, nI_1]
      simp [bcnt, h]
    · rw [if_neg h, nI_1]
      simp [bcnt, h]
  · intro rc
    unfold gX8_menThatAre_L4
    rw [zgP_some h2 hp, hn.1, if_pos (nI_le (Nat.le_refl _) (by omega))]
def sSaved (P V : AV) : Nat → Int32
  | 0 => 0
  | t + 1 => if V 8 t = 2 then sSaved P V t + P 6 t else sSaved P V t
theorem s_saved {M : zM} {w p n T L : Nat} (hW : WC M w p n T L) : gX8_savedWorth w M = some (sSaved (pC n T L M p) (vC n T M w) T) := by
  obtain ⟨h1, h2, hp, hn, hT, hL, hl⟩ := hW
  unfold gX8_savedWorth
  refine zfix_run (fun k => (sSaved (pC n T L M p) (vC n T M w) k, nI k)) T ?_ (by unfold zFu; omega) ?_ ?_
  · simp [sSaved, nI_0]
  · intro k hk rc
    unfold gX8_savedWorth_L4
    rw [zgP_some h2 hp, hT.1, if_neg (nI_ge hk (by omega)), nI_lit8, if_neg (nI_ge (by omega) (by omega)), zg_true (zok_nI (by omega) (by omega)), nI_cl (by omega), zgP_some h2 hp, zg_true (zok_nI (show k < 8 by omega) (by omega)), zlet_eq, ← vC_at (n := n) (T := T) (M := M) (w := w) (vdT (c := 8) (by omega) (by omega) hk), ← pC_at (n := n) (T := T) (L := L) (M := M) (p := p) (pdT (c := 6) (by omega) (by omega) hk), nI_1]
    by_cases h : vC n T M w 8 k = 2
    · rw [if_pos h]; simp [sSaved, h]
    · rw [if_neg h]; simp [sSaved, h]
  · intro rc
    unfold gX8_savedWorth_L4
    rw [zgP_some h2 hp, hT.1, if_pos (nI_le (Nat.le_refl _) (by omega))]
theorem r_things {M : zM} {n T L f : Nat} {x : Int32} (hM : MC M n T L) (hf : f < 23) : gX10_thingsOf (nI f) x M = some (nI (bcnt (fun t => vM n T M f 8 t == x) T)) := by
  obtain ⟨hn, hT, hL, hl⟩ := hM
  unfold gX10_thingsOf
  refine zfix_run (fun k => (nI (bcnt (fun t => vM n T M f 8 t == x) k), nI k)) T ?_ (by unfold zFu; omega) ?_ ?_
  · simp [bcnt, nI_0]
  · intro k hk rc
    unfold gX10_thingsOf_L5
    rw [cl1, hT.1, if_neg (nI_ge hk (by omega)), nI_8, zg_true (zok_nI (show 8 * f + k < 184 by omega) (by omega)), nI_cl (by omega), ← vM_t (n := n) (M := M) (c := 8) (by omega) (by omega) hk, Int32.add_zero]
    by_cases h : vM n T M f 8 k = x
    · rw [if_pos h, nI_1, nI_1]
      simp [bcnt, h]
    · rw [if_neg h, nI_1]
      simp [bcnt, h]
  · intro rc
    unfold gX10_thingsOf_L5
    rw [cl1, hT.1, if_pos (nI_le (Nat.le_refl _) (by omega))]
theorem r_men {M : zM} {n T L f : Nat} {x : Int32} (hM : MC M n T L) (hf : f < 23) : gX10_menOf (nI f) x M = some (nI (bcnt (fun t => vM n T M f 4 t == x) n)) := by
  obtain ⟨hn, hT, hL, hl⟩ := hM
  unfold gX10_menOf
  refine zfix_run (fun k => (nI (bcnt (fun t => vM n T M f 4 t == x) k), nI k)) n ?_ (by unfold zFu; omega) ?_ ?_
  · simp [bcnt, nI_0]
  · intro k hk rc
    have e4 : vM n T M f 4 k = M.1 125 (6 * f + k) := vM_m (c := 4) (by omega) (by omega) (by omega) hk
    unfold gX10_menOf_L5
    rw [cl0, hn.1, if_neg (nI_ge hk (by omega)), nI_6, zg_true (zok_nI (show 6 * f + k < 138 by omega) (by omega)), nI_cl (by omega), ← e4, Int32.add_zero]
    by_cases h : vM n T M f 4 k = x
    · rw [if_pos h, nI_1, nI_1]
      simp [bcnt, h]
    · rw [if_neg h, nI_1]
      simp [bcnt, h]
  · intro rc
    unfold gX10_menOf_L5
    rw [cl0, hn.1, if_pos (nI_le (Nat.le_refl _) (by omega))]
theorem r_saved {M : zM} {n T L f : Nat} (hM : MC M n T L) (hf : f < 23) : gX10_savedWorth (nI f) M = some (sSaved (pM n T L M) (vM n T M f) T) := by
  obtain ⟨hn, hT, hL, hl⟩ := hM
  unfold gX10_savedWorth
  refine zfix_run (fun k => (sSaved (pM n T L M) (vM n T M f) k, nI k)) T ?_ (by unfold zFu; omega) ?_ ?_
  · simp [sSaved, nI_0]
  · intro k hk rc
    have e6 : pM n T L M 6 k = M.1 106 k := pM_at (pdT (by omega) (by omega) hk)
    unfold gX10_savedWorth_L4
    rw [cl1, hT.1, if_neg (nI_ge hk (by omega)), nI_8, zg_true (zok_nI (show 8 * f + k < 184 by omega) (by omega)), nI_cl (show 8 * f + k < 2 ^ 31 by omega), ← vM_t (n := n) (M := M) (c := 8) (by omega) (by omega) hk, zg_true (zok_nI (show k < 16 by omega) (by omega)), zlet_eq, nI_cl (show k < 2 ^ 31 by omega), ← e6, Int32.add_zero, nI_1]
    by_cases h : vM n T M f 8 k = 2
    · rw [if_pos h]; simp [sSaved, h]
    · rw [if_neg h]; simp [sSaved, h]
  · intro rc
    unfold gX10_savedWorth_L4
    rw [cl1, hT.1, if_pos (nI_le (Nat.le_refl _) (by omega))]
/-! one world becomes another -/
theorem zI_row_ne {M : zM} {a i b : Nat} {x : Int32} (h : b ≠ a) : (zI M a i x).1 b = M.1 b := by
  funext j; exact zI_of (fun z => h z.1)
theorem zcp_row_ne {M : zM} {a b b' n : Nat} (h : b' ≠ b) : (zcp M a b 0 0 n).1 b' = M.1 b' := by
  funext j; simp [zcp, h]
theorem zcp_at {M : zM} {a b n k : Nat} (h : k < n) : (zcp M a b 0 0 n).1 b k = M.1 a k := by simp [zcp, va_cpy, h]
theorem nar_b {x : Int32} (h : x = 0 ∨ x = 1) : vp_nar .boolean x = x := by rcases h with rfl | rfl <;> rfl
theorem cl8 : (8 : Int32).toNatClampNeg = 8 := rfl
theorem s_become {M : zM} {w v p : Nat} (hw : isW w) (hv : isW v) (hne : w ≠ v) (hp : M.2.2 v 0 = some p) (hpl : zisPl p = true) :
    ∃ M', gX8_become w v M = some M' ∧ (∀ a, ¬ (w ≤ a ∧ a ≤ w + 9) → M'.1 a = M.1 a) ∧ M'.2.1 = M.2.1 ∧ M'.2.2 = (zF M w 0 p).2.2 ∧ (∀ c k, 1 ≤ c → c ≤ 6 → k < 6 → M'.1 (w + c) k = M.1 (v + c) k) ∧ (∀ k, k < 6 → M'.1 (w + 7) k = vp_nar .boolean (M.1 (v + 7) k)) ∧ (∀ c k, 8 ≤ c → c ≤ 9 → k < 8 → M'.1 (w + c) k = M.1 (v + c) k) ∧ (∀ k, 10 ≤ k → k ≤ 15 → M'.1 w k = M.1 v k) := by
  have apart : w + 9 < v ∨ v + 9 < w := by
    unfold isW at hw hv
    omega
  unfold gX8_become
  rw [zgP_some hp hpl, zlet_eq, zlet_eq, zlet_eq, zlet_eq, zlet_eq, zlet_eq, zlet_eq, cl0, cl6]
  -- six rows copied
  have hM15 : ∃ M15 : zM, M15 = zcp (zcp (zcp (zcp (zcp (zcp (zF M w 0 p) (v + 1) (w + 1) 0 0 6) (v + 2) (w + 2) 0 0 6) (v + 3) (w + 3) 0 0 6) (v + 4) (w + 4) 0 0 6) (v + 5) (w + 5) 0 0 6) (v + 6) (w + 6) 0 0 6 := ⟨_, rfl⟩
  obtain ⟨M15, h15⟩ := hM15
  rw [← h15]
  have o15 : ∀ a, ¬ (w + 1 ≤ a ∧ a ≤ w + 6) → M15.1 a = M.1 a := by
    intro a ha
    rw [h15, zcp_row_ne (by omega), zcp_row_ne (by omega), zcp_row_ne (by omega), zcp_row_ne (by omega), zcp_row_ne (by omega), zcp_row_ne (by omega)]
    rfl
  have c15 : ∀ c k, 1 ≤ c → c ≤ 6 → k < 6 → M15.1 (w + c) k = M.1 (v + c) k := by
    intro c k h1 h6 hk
    rw [h15]
    rcases (show c = 1 ∨ c = 2 ∨ c = 3 ∨ c = 4 ∨ c = 5 ∨ c = 6 by omega) with rfl | rfl | rfl | rfl | rfl | rfl
    · rw [zcp_row_ne (by omega), zcp_row_ne (by omega), zcp_row_ne (by omega), zcp_row_ne (by omega), zcp_row_ne (by omega), zcp_at hk]; rfl
    · rw [zcp_row_ne (by omega), zcp_row_ne (by omega), zcp_row_ne (by omega), zcp_row_ne (by omega), zcp_at hk, zcp_row_ne (by omega)]; rfl
    · rw [zcp_row_ne (by omega), zcp_row_ne (by omega), zcp_row_ne (by omega), zcp_at hk, zcp_row_ne (by omega), zcp_row_ne (by omega)]; rfl
    · rw [zcp_row_ne (by omega), zcp_row_ne (by omega), zcp_at hk, zcp_row_ne (by omega), zcp_row_ne (by omega), zcp_row_ne (by omega)]; rfl
    · rw [zcp_row_ne (by omega), zcp_at hk, zcp_row_ne (by omega), zcp_row_ne (by omega), zcp_row_ne (by omega), zcp_row_ne (by omega)]; rfl
    · rw [zcp_at hk, zcp_row_ne (by omega), zcp_row_ne (by omega), zcp_row_ne (by omega), zcp_row_ne (by omega), zcp_row_ne (by omega)]; rfl
  have l15 : M15.2 = (zF M w 0 p).2 := by rw [h15]; rfl
  clear h15
  obtain ⟨s', N', ⟨e1, e2, e3, e4⟩, hz⟩ := zfix_inv (B := gX8_become_L100 w v) (fun k (s : Int32 × zM) => s.1 = nI k ∧ (∀ a, a ≠ w + 7 → s.2.1 a = M15.1 a) ∧ s.2.2 = M15.2 ∧ ∀ i, i < k → s.2.1 (w + 7) i = vp_nar .boolean (M.1 (v + 7) i)) 6 (by
    intro k hk s ⟨q1, q2, q3, q4⟩
    obtain ⟨i, Mk⟩ := s
    dsimp only at q1 q2 q3 q4
    subst q1
    refine ⟨(nI (k + 1), zI Mk (w + 7) k (vp_nar .boolean (M.1 (v + 7) k))), ⟨rfl, fun a ha => by dsimp only; rw [zI_row_ne ha]; exact q2 a ha, q3, fun i hi => ?_⟩, fun rc => ?_⟩
    · dsimp only
      by_cases e : i = k
      · subst e; exact zI_at
      · rw [zI_of (by omega)]; exact q4 i (by omega)
    · have ev : Mk.1 (v + 7) k = M.1 (v + 7) k := by rw [q2 (v + 7) (by omega), o15 (v + 7) (by omega)]
      unfold gX8_become_L100
      dsimp only
      rw [nI_lit6, if_neg (nI_ge hk (by omega)), zg_true (zok_nI hk (by omega)), zg_true (zok_nI hk (by omega)), zlet_eq, nI_cl (by omega), ev, nI_1]) 6 0 zFu (0, M15) (by omega) (by unfold zFu; omega) ⟨nI_0.symm, fun _ _ => rfl, rfl, fun i hi => by omega⟩
  obtain ⟨i, Mk⟩ := s'
  dsimp only at e1 e2 e3 e4
  subst e1
  rw [hz]
  unfold gX8_become_L100
  dsimp only
  rw [nI_lit6, if_pos (nI_le (Nat.le_refl _) (by omega)), zlet_eq, zlet_eq, zlet_eq, zlet_eq, zlet_eq, zlet_eq, zlet_eq, zlet_eq, cl0, cl8]
  have kv : ∀ c, c ≤ 9 → Mk.1 (v + c) = M.1 (v + c) := fun c hc => by rw [e2 (v + c) (by omega), o15 (v + c) (by omega)]
  have kv0 : Mk.1 v = M.1 v := kv 0 (by omega)
  refine ⟨_, rfl, fun a ha => ?_, ?_, ?_, fun c k h1 h7 hk => ?_, fun k hk => ?_, fun c k h8 h9 hk => ?_, fun k h10 h15 => ?_⟩
  · rw [zI_row_ne (by omega), zI_row_ne (by omega), zI_row_ne (by omega), zI_row_ne (by omega), zI_row_ne (by omega), zI_row_ne (by omega), zcp_row_ne (by omega), zcp_row_ne (by omega), e2 a (by omega), o15 a (by omega)]
  · show Mk.2.1 = M.2.1
    rw [e3, l15]; rfl
  · show Mk.2.2 = _
    rw [e3, l15]
  · rw [zI_row_ne (by omega), zI_row_ne (by omega), zI_row_ne (by omega), zI_row_ne (by omega), zI_row_ne (by omega), zI_row_ne (by omega), zcp_row_ne (by omega), zcp_row_ne (by omega)]
    rw [e2 (w + c) (by omega)]; exact c15 c k h1 (by omega) hk
  · rw [zI_row_ne (by omega), zI_row_ne (by omega), zI_row_ne (by omega), zI_row_ne (by omega), zI_row_ne (by omega), zI_row_ne (by omega), zcp_row_ne (by omega), zcp_row_ne (by omega)]
    exact e4 k hk
  · rw [zI_row_ne (by omega), zI_row_ne (by omega), zI_row_ne (by omega), zI_row_ne (by omega), zI_row_ne (by omega), zI_row_ne (by omega)]
    rcases (show c = 8 ∨ c = 9 by omega) with rfl | rfl
    · rw [zcp_row_ne (by omega), zcp_at hk, kv 8 (by omega)]
    · rw [zcp_at hk, zcp_row_ne (by omega), kv 9 (by omega)]
  · have rv : ∀ (N : zM) (i : Nat) (x : Int32), (zI N w i x).1 v = N.1 v := fun N i x => zI_row_ne (by omega)
    have rc : ∀ (N : zM) (a b m : Nat), b ≠ v → (zcp N a b 0 0 m).1 v = N.1 v := fun N a b m h => zcp_row_ne (fun z => h z.symm)
    simp only [rv]
    rw [rc _ _ _ _ (by omega), rc _ _ _ _ (by omega), kv0]
    rcases (show k = 10 ∨ k = 11 ∨ k = 12 ∨ k = 13 ∨ k = 14 ∨ k = 15 by omega) with rfl | rfl | rfl | rfl | rfl | rfl
    · rw [zI_of (by omega), zI_of (by omega), zI_of (by omega), zI_of (by omega), zI_of (by omega), zI_at]
    · rw [zI_of (by omega), zI_of (by omega), zI_of (by omega), zI_of (by omega), zI_at]
    · rw [zI_of (by omega), zI_of (by omega), zI_of (by omega), zI_at]
    · rw [zI_of (by omega), zI_of (by omega), zI_at]
    · rw [zI_of (by omega), zI_at]
    · rw [zI_at]

/-- a world becomes another, as one sees it -/
theorem s_becomes {M : zM} {w v p n T : Nat} (hw : isW w) (hv : isW v) (hne : w ≠ v) (hp : M.2.2 v 0 = some p) (hpl : zisPl p = true) (hn : n ≤ 6) (hT : T ≤ 8) (hb : ∀ k, k < n → vC n T M v 7 k = 0 ∨ vC n T M v 7 k = 1) :
    ∃ M', gX8_become w v M = some M' ∧ (∀ a, ¬ (w ≤ a ∧ a ≤ w + 9) → M'.1 a = M.1 a) ∧ M'.2.1 = M.2.1 ∧ M'.2.2 = (zF M w 0 p).2.2 ∧ vC n T M' w = vC n T M v := by
  obtain ⟨M', g1, g2, g3, g4, g5, g6, g7, g8⟩ := s_become hw hv hne hp hpl
  refine ⟨M', g1, g2, g3, g4, ?_⟩
  funext c k
  by_cases hd : vdim n T c k = true
  · rw [vC_at hd, vC_at hd]
    rcases vdim_cases hd with ⟨rfl, a1, a2⟩ | ⟨a1, a2, a3⟩ | ⟨a1, a2, a3⟩
    · exact g8 k a1 (by omega)
    · by_cases h7 : c = 7
      · subst h7
        have h := hb k a3
        rw [vC_at hd] at h
        rw [g6 k (by omega), nar_b h]
      · exact g5 c k a1 (by omega) (by omega)
    · exact g7 c k a1 a2 (by omega)
  · unfold vC
    rw [if_neg hd, if_neg hd]
theorem zF_at {M : zM} {a i x : Nat} : (zF M a i x).2.2 a i = some x := by simp [zF]
theorem zF_of {M : zM} {a i b j x : Nat} (h : ¬ (b = a ∧ j = i)) : (zF M a i x).2.2 b j = M.2.2 b j := by simp only [zF]; exact if_neg h
