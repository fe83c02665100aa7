/-- a row of KNOTS never takes from too short a stack -/
def wfS : List (Int32 × Int32) → Nat → Prop
  | [], _ => True
  | q :: c, h => if q.1 = 28 then 1 ≤ h ∧ wfS c h else if q.1 < 26 then wfS c (h + 1) else 2 ≤ h ∧ wfS c (h - 1)
/-- a KNOT as the reference writes it -/
def okK (q : Int32 × Int32) : Prop := q.1 = 2 ∨ q.1 = 0 ∨ (q.1 = 1 ∧ ∃ i : Nat, i < 7 ∧ q.2 = nI i)
theorem cvS_26 (v : Int32) : ¬ cvS v < 26 := by
  unfold cvS
  repeat' split
  all_goals decide
theorem cvS_28 (v : Int32) : cvS v = 28 ↔ v = 260 := by
  constructor
  · intro h
    unfold cvS at h
    repeat' (split at h)
    all_goals first | assumption | (exact absurd h (by decide))
  · intro h; rw [h]; rfl
theorem eB_I (x : Int32) : eB x.toInt64 := by
  unfold eB
  rw [Int32.toInt_toInt64]
  have h1 := Int32.le_toInt x
  have h2 := Int32.toInt_lt x
  omega
theorem val_num (F : Nat → Int64) (v : Int32) : eVal F 3 v = v.toInt64 := rfl
theorem val_name (F : Nat → Int64) (v : Int32) {i : Nat} (hi : i < 7) : eVal F (19 + nI i) v = F i := by
  unfold eVal
  have e : (19 + nI i) - 19 = nI i := by rw [Int32.add_comm, Int32.add_sub_cancel]
  rw [e, if_neg (nI_pos (by omega)), nI_lit7, if_neg (nI_ge hi (by omega)), nI_cl (by omega)]
theorem nm_26 {i : Nat} (hi : i < 7) : (19 + nI i : Int32) < 26 ∧ ¬ (19 + nI i : Int32) = 28 := by
  match i, hi with
  | 0, _ => decide
  | 1, _ => decide
  | 2, _ => decide
  | 3, _ => decide
  | 4, _ => decide
  | 5, _ => decide
  | 6, _ => decide
set_option maxHeartbeats 2000000 in
theorem r_loop {j e : Nat} (hj : j < 6) (he : e ≤ 128) (K V : Nat → Int32) (F : Nat → Int64) (hF : ∀ i, i < 7 → eB (F i)) : ∀ (c : List (Int32 × Int32)) (k N : Nat) (st : List Int64) (M : zM), M.1 114 = K → M.1 115 = V → M.1 113 j = nI e → M.2.1 116 = F → M.1 98 34 = nI st.length → k + c.length = e → c.length < N → st.length + c.length ≤ 64 → (∀ i, i < c.length → c[i]? = some (K (k + i), V (k + i))) → (∀ q ∈ c, okK q) → wfS (c.map (fun q => cvK q.1 q.2)) st.length → skR (M.2.1 117) st → (∀ v ∈ st, eB v) →
    ∃ (b : Int32) (M' : zM), zfix N (gX10_comesOut_L12 (nI j)) (nI k, M) = some (b, M') ∧ (∀ a i, ¬ (a = 98 ∧ i = 34) → M'.1 a i = M.1 a i) ∧ M'.2.2 = M.2.2 ∧ (∀ a, a ≠ 117 → M'.2.1 a = M.2.1 a) ∧ (match evS F (c.map (fun q => cvK q.1 q.2)) st with
      | some s' => b = 1 ∧ skR (M'.2.1 117) s' ∧ (∀ v ∈ s', eB v)
      | none => b = 0) := by
  intro c
  induction c with
  | nil =>
    intro k N st M hK hV he2 hFM hw hk hc hs hcode hok hwf hst hB
    cases N with
    | zero => simp at hc
    | succ N =>
      refine ⟨1, M, ?_, fun _ _ _ => rfl, rfl, fun _ _ => rfl, rfl, hst, hB⟩
      rw [zfix_succ]
      unfold gX10_comesOut_L12
      dsimp only
      rw [zg_true (zok_nI hj (by omega)), nI_cl (by omega), he2, if_pos (nI_le (by simp at hk; omega) (by omega))]
  | cons q c ih =>
    intro k N st M hK hV he2 hFM hw hk hc hs hcode hok hwf hst hB
    rw [List.length_cons] at hk hc hs
    cases N with
    | zero => omega
    | succ N =>
      have hq := hcode 0 (by simp)
      rw [Nat.add_zero] at hq
      have hq1 : q = (K k, V k) := by simpa using hq
      have hcode' : ∀ i, i < c.length → c[i]? = some (K (k + 1 + i), V (k + 1 + i)) := fun i hi => by
        have := hcode (i + 1) (by rw [List.length_cons]; omega)
        rw [show k + 1 + i = k + (i + 1) by omega]
        simpa using this
      have hok' : ∀ q ∈ c, okK q := fun q hq => hok q (List.mem_cons_of_mem _ hq)
      have hoq := hok q List.mem_cons_self
      rw [hq1] at hoq
      rw [zfix_succ]
      have hrc0 : ∃ rc, rc = zfix N (gX10_comesOut_L12 (nI j)) := ⟨_, rfl⟩
      obtain ⟨rc, hrc⟩ := hrc0
      rw [← hrc]
      unfold gX10_comesOut_L12
      dsimp only
      rw [zg_true (zok_nI hj (by omega)), nI_cl (by omega), he2, if_neg (nI_ge (by omega) (by omega)), zg_true (zok_nI (show k < 128 by omega) (by omega)), nI_cl (show k < 2 ^ 31 by omega), hK, hV]
      rw [List.map_cons] at hwf ⊢
      rw [hq1] at hwf ⊢
      unfold wfS at hwf
      unfold evS
      -- pushing v
      have push : ∀ v : Int64, eB v → wfS (c.map (fun q => cvK q.1 q.2)) (st.length + 1) → ∃ (b : Int32) (M' : zM), gX10_comesOut_J85 (nI j) (nI k) (M.1 98 34) v rc M = some (b, M') ∧ (∀ a i, ¬ (a = 98 ∧ i = 34) → M'.1 a i = M.1 a i) ∧ M'.2.2 = M.2.2 ∧ (∀ a, a ≠ 117 → M'.2.1 a = M.2.1 a) ∧ (match evS F (c.map (fun q => cvK q.1 q.2)) (v :: st) with
          | some s' => b = 1 ∧ skR (M'.2.1 117) s' ∧ (∀ v ∈ s', eB v)
          | none => b = 0) := by
        intro v hv hwf'
        unfold gX10_comesOut_J85
        rw [hw, zg_true (zok_nI (show st.length < 64 by omega) (by omega)), nI_cl (by omega), zlet_eq, zlet_eq, zJ_1, hw, nI_1, nI_1, hrc]
        obtain ⟨b, M', h1, h2, h3, h4, h5⟩ := ih (k + 1) N (v :: st) (zI (zJ M 117 st.length v) 98 34 (nI (st.length + 1))) (by funext i; rw [zI_of (by omega)]; exact congrFun hK i) (by funext i; rw [zI_of (by omega)]; exact congrFun hV i) (by rw [zI_of (by omega)]; exact he2) (by show (zJ M 117 st.length v).2.1 116 = F; rw [zJ_row_ne (by omega)]; exact hFM) zI_at (by omega) (by omega) (by rw [List.length_cons]; omega) hcode' hok' hwf' (by
          show skR ((zJ M 117 st.length v).2.1 117) (v :: st)
          exact skR_push hst zJ_at (fun i hi => zJ_of (by omega))) (fun u hu => (List.mem_cons.mp hu).elim (fun e => e ▸ hv) (hB u))
        refine ⟨b, M', h1, fun a i hai => by rw [h2 a i hai, zI_of hai]; rfl, h3, fun a ha => by rw [h4 a ha]; exact zJ_row_ne ha, h5⟩
      by_cases hs2 : K k = 2
      · rw [if_pos hs2, zg_true (zok_nI (show k < 128 by omega) (by omega))]
        have ecv : cvK (K k) (V k) = (cvS (V k), 0) := by unfold cvK; rw [if_pos hs2]
        dsimp only at hwf ⊢
        rw [ecv] at hwf ⊢
        dsimp only at hwf ⊢
        by_cases h260 : V k = 260
        · have e28 : cvS (V k) = 28 := (cvS_28 _).mpr h260
          rw [if_pos e28] at hwf ⊢
          match st, hst, hs, hw, hwf, hB with
          | [], _, _, _, hwf, _ => exact absurd hwf.1 (by decide)
          | y :: r, hst, hs, hw, hwf, hB =>
            rw [List.length_cons] at hs hw
            have hy := skR_top hst
            rw [h260, zcIM_some (r_not hw (by omega) hy), if_neg (by decide), nI_1, hrc]
            obtain ⟨b, M', h1, h2, h3, h4, h5⟩ := ih (k + 1) N ((if y = 0 then 1 else 0) :: r) (zJ M 117 r.length (if y = 0 then 1 else 0)) hK hV he2 (by rw [zJ_row_ne (by omega)]; exact hFM) hw (by omega) (by omega) (by rw [List.length_cons]; omega) hcode' hok' hwf.2 (skR_push (skR_tail hst) zJ_at (fun i hi => zJ_of (by omega))) (fun u hu => (List.mem_cons.mp hu).elim (fun e => by rw [e]; split; exact eB_01.2; exact eB_01.1) (fun h => hB u (List.mem_cons_of_mem _ h)))
            exact ⟨b, M', h1, h2, h3, fun a ha => by rw [h4 a ha]; exact zJ_row_ne ha, h5⟩
        · have e28 : ¬ cvS (V k) = 28 := fun z => h260 ((cvS_28 _).mp z)
          rw [if_neg e28, if_neg (cvS_26 _)] at hwf ⊢
          match st, hst, hs, hw, hwf, hB with
          | [], _, _, _, hwf, _ => exact absurd hwf.1 (by simp)
          | [y], _, _, _, hwf, _ => exact absurd hwf.1 (by simp)
          | y :: x :: r, hst, hs, hw, hwf, hB =>
            rw [List.length_cons, List.length_cons] at hs hw
            have hy := skR_top hst
            have hx := skR_top (skR_tail hst)
            rw [List.length_cons] at hy
            obtain ⟨b, M1, g1, g2, g3, g4, g5, g6⟩ := r_works (M := M) h260 hw (show r.length + 1 < 64 by omega) hy hx (hB x (by simp)) (hB y (by simp))
            rw [zcIM_some g1]
            dsimp only
            cases hcm : cmb (cvS (V k)) x y with
            | none =>
              rw [hcm] at g6
              have g6 : b = 0 := g6
              rw [if_pos g6]
              exact ⟨0, M1, rfl, fun a i hai => by rw [g2, zI_of hai], g3, g4, rfl⟩
            | some v =>
              rw [hcm] at g6
              have g6 : b = 1 ∧ M1.2.1 117 r.length = v := g6
              rw [if_neg (by rw [g6.1]; decide), nI_1, hrc]
              obtain ⟨b', M', h1, h2, h3, h4, h5⟩ := ih (k + 1) N (v :: r) M1 (by funext i; rw [g2, zI_of (by omega)]; exact congrFun hK i) (by funext i; rw [g2, zI_of (by omega)]; exact congrFun hV i) (by rw [g2, zI_of (by omega)]; exact he2) (by rw [g4 116 (by decide)]; exact hFM) (by rw [g2, zI_at]; rfl) (by omega) (by omega) (by rw [List.length_cons]; omega) hcode' hok' (by simpa using hwf.2) (skR_push (skR_tail (skR_tail hst)) g6.2 (fun i hi => g5 i hi)) (fun u hu => (List.mem_cons.mp hu).elim (fun e => by rw [e]; exact cmb_B hcm) (fun h => hB u (by simp [h])))
              exact ⟨b', M', h1, fun a i hai => by rw [h2 a i hai, g2, zI_of hai], by rw [h3, g3], fun a ha => by rw [h4 a ha, g4 a ha], h5⟩
      · rw [if_neg hs2, zg_true (zok_nI (show k < 128 by omega) (by omega))]
        by_cases hs0 : K k = 0
        · rw [if_pos hs0, zg_true (zok_nI (show k < 128 by omega) (by omega))]
          have ecv : cvK (K k) (V k) = (3, V k) := by unfold cvK; rw [if_neg hs2, if_pos hs0]
          dsimp only at hwf ⊢
          rw [ecv] at hwf ⊢
          dsimp only at hwf ⊢
          rw [if_neg (by decide), if_pos (by decide)] at hwf ⊢
          rw [val_num]
          exact push _ (eB_I _) hwf
        · rw [if_neg hs0, zg_true (zok_nI (show k < 128 by omega) (by omega))]
          obtain ⟨i, hi, hvi⟩ : ∃ i : Nat, i < 7 ∧ V k = nI i := by
            rcases hoq with h | h | h
            · exact absurd h hs2
            · exact absurd h hs0
            · exact h.2
          have ecv : cvK (K k) (V k) = (19 + V k, zc2 (12 + (V k).toNatClampNeg)) := by unfold cvK; rw [if_neg hs2, if_neg hs0]
          dsimp only at hwf ⊢
          rw [ecv, hvi] at hwf ⊢
          dsimp only at hwf ⊢
          rw [if_neg (nm_26 hi).2, if_pos (nm_26 hi).1] at hwf ⊢
          rw [val_name _ _ hi, zg_true (zok_nI hi (by omega)), nI_cl (by omega), hFM]
          exact push _ (hF i hi) hwf
