/-! ===== the reference begins and ends a TEXT ===== -/
def vl9 (j : Nat) : Int32 := if j = 3 then 99 else if j = 4 then 1 else 0
theorem bitI_0 (w : Nat) : bitI 0 w = false := by
  unfold bitI
  show (0#32).getLsbD w = false
  exact BitVec.getLsbD_zero
theorem m_init {M : zM} {N : Nat} {b : Nat → Nat} (ht : tB N b) (hB : ∀ i, i < N → M.1 99 i = nI (b i)) (h21 : M.1 98 21 = nI N) (h22 : M.1 98 22 = 0) (h26 : M.1 98 26 = 0) (h27 : M.1 98 27 = -1) :
    ∃ M21, zfix zFu gX10_text_L47 (0, M) = zfix zFu gX10_text_L136 M21 ∧ rX M21 N b 0 ∧ mPs M21 0 0 0 P00 (fun _ => false) (fun _ => none) [] ∧ M21.1 98 20 = nI 0 ∧ FrR M M21 := by
  obtain ⟨s', N', ⟨e1, e2, e3, e4⟩, hz⟩ := zfix_inv (B := gX10_text_L47) (fun k (s : Int32 × zM) => s.1 = nI k ∧ s.2.2 = M.2 ∧ (∀ a i, ¬ (a = 100 ∧ 9 ≤ i) → s.2.1 a i = M.1 a i) ∧ ∀ j, j < k → s.2.1 100 (9 + j) = vl9 j) 9 (by
    intro k hk s ⟨q1, q2, q3, q4⟩
    obtain ⟨i, Mk⟩ := s
    dsimp only at q1 q2 q3 q4
    subst q1
    refine ⟨(nI (k + 1), zI Mk 100 (9 + k) (vl9 k)), ⟨rfl, q2, fun a i w => ?_, fun j hj => ?_⟩, fun rc => ?_⟩
    · dsimp only
      rw [zI_of (by omega)]; exact q3 a i w
    · dsimp only
      by_cases e : j = k
      · subst e; rw [zI_at]
      · rw [zI_of (by omega)]; exact q4 j (by omega)
    · have e75 : ∀ y, gX10_text_J75 (nI k) (nI k) y rc Mk = rc (nI (k + 1), zI Mk 100 (9 + k) y) := fun y => by
        unfold gX10_text_J75
        rw [zcV_some (m_reads hk), nI_1]
      unfold gX10_text_L47 vl9
      dsimp only
      rw [if_neg (show ¬ 9 ≤ nI k from nI_ge (b := 9) hk (by omega))]
      by_cases e3' : k = 3
      · rw [if_pos (show nI k = 3 by rw [e3']; decide), if_pos e3', e75]
      · rw [if_neg (show ¬ nI k = 3 from fun w => e3' (by have := (nI_eqs (b := 3) (by omega) (by omega)).mp w; exact this)), if_neg e3']
        by_cases e4' : k = 4
        · rw [if_pos (show nI k = 4 by rw [e4']; decide), if_pos e4', e75]
        · rw [if_neg (show ¬ nI k = 4 from fun w => e4' (by have := (nI_eqs (b := 4) (by omega) (by omega)).mp w; exact this)), if_neg e4', e75]) 9 0 zFu (0, M) (by omega) (by unfold zFu; omega) ⟨nI_0.symm, rfl, fun _ _ _ => rfl, fun j hj => absurd hj (by omega)⟩
  obtain ⟨x9, M9⟩ := s'
  dsimp only at e1 e2 e3 e4
  subst e1
  obtain ⟨s2, N2, ⟨f1, f2, f3, f4⟩, hz2⟩ := zfix_inv (B := gX10_text_L86) (fun k (s : Int32 × zM) => s.1 = nI (3 + k) ∧ s.2.2 = M.2 ∧ (∀ a i, ¬ (112 ≤ a ∧ a ≤ 113 ∧ 3 ≤ i) → s.2.1 a i = M9.1 a i) ∧ ∀ j, j < k → s.2.1 112 (3 + j) = 0 ∧ s.2.1 113 (3 + j) = 0) 3 (by
    intro k hk s ⟨q1, q2, q3, q4⟩
    obtain ⟨i, Mk⟩ := s
    dsimp only at q1 q2 q3 q4
    subst q1
    refine ⟨(nI (3 + (k + 1)), zI (zI Mk 112 (3 + k) 0) 113 (3 + k) 0), ⟨rfl, q2, fun a i w => ?_, fun j hj => ?_⟩, fun rc => ?_⟩
    · dsimp only
      rw [zI_of (by omega), zI_of (by omega)]; exact q3 a i w
    · dsimp only
      by_cases e : j = k
      · subst e; exact ⟨by rw [zI_of (by omega), zI_at], zI_at⟩
      · rw [zI_of (by omega), zI_of (by omega), zI_of (by omega), zI_of (by omega)]; exact q4 j (by omega)
    · unfold gX10_text_L86
      dsimp only
      rw [nI_lit6, if_neg (nI_ge (by omega) (by omega)), zg_true (zok_nI (show 3 + k < 6 by omega) (by omega)), zlet_eq, zg_true (zok_nI (show 3 + k < 6 by omega) (by omega)), zlet_eq, nI_cl (by omega), nI_1]
      rfl) 3 0 zFu (3, M9) (by omega) (by unfold zFu; omega) ⟨by show (3 : Int32) = nI 3; decide, e2, fun _ _ _ => rfl, fun j hj => absurd hj (by omega)⟩
  obtain ⟨x6, M6⟩ := s2
  dsimp only at f1 f2 f3 f4
  subst f1
  have fr : ∀ a i, ¬ ((a = 98 ∧ (i = 19 ∨ i = 20 ∨ i = 30 ∨ i = 31)) ∨ (a = 100 ∧ 9 ≤ i) ∨ (112 ≤ a ∧ a ≤ 113 ∧ 3 ≤ i)) → (zI (zI (zI (zI M6 98 19 0) 98 20 0) 98 30 0) 98 31 0).1 a i = M.1 a i := fun a i q => by rw [zI_of (by omega), zI_of (by omega), zI_of (by omega), zI_of (by omega), f3 a i (by omega), e3 a i (by omega)]
  have mb : mB (zI (zI (zI (zI M6 98 19 0) 98 20 0) 98 30 0) 98 31 0) N b := ⟨by rw [fr _ _ (by omega)]; exact h21, fun i hi => by rw [fr _ _ (by omega)]; exact hB i hi⟩
  obtain ⟨M21, g1, g2, g3, g4, g5, g6⟩ := m_token mb ht (a := 0) (by rw [fr _ _ (by omega), h22]; exact nI_0.symm) (Nat.zero_le _)
  have v9 : ∀ j, j < 9 → M21.1 100 (9 + j) = vl9 j := fun j hj => by rw [g3 _ _ (by omega), zI_of (by omega), zI_of (by omega), zI_of (by omega), zI_of (by omega), f3 _ _ (by omega)]; exact e4 j hj
  have v112 : ∀ j, j < 3 → M21.1 112 (3 + j) = 0 ∧ M21.1 113 (3 + j) = 0 := fun j hj => by rw [g3 _ _ (by omega), g3 _ _ (by omega), zI_of (by omega), zI_of (by omega), zI_of (by omega), zI_of (by omega), zI_of (by omega), zI_of (by omega), zI_of (by omega), zI_of (by omega)]; exact f4 j hj
  have v19 : M21.1 98 19 = 0 := by rw [g3 _ _ (by omega), zI_of (by omega), zI_of (by omega), zI_of (by omega), zI_at]
  have v20 : M21.1 98 20 = 0 := by rw [g3 _ _ (by omega), zI_of (by omega), zI_of (by omega), zI_at]
  have v30 : M21.1 98 30 = 0 := by rw [g3 _ _ (by omega), zI_of (by omega), zI_at]
  have v31 : M21.1 98 31 = 0 := by rw [g3 _ _ (by omega), zI_at]
  refine ⟨M21, ?_, ⟨by rw [g3 _ _ (by omega), fr _ _ (by omega)]; exact h26, ⟨mb.mono (g3 _ _ (by omega)) (fun i => g3 _ _ (by omega)), by rw [g3 _ _ (by omega), fr _ _ (by omega)]; exact h27⟩, g4, g5, g6⟩, ⟨⟨?_, ?_, ?_⟩, fun c k hc hd => ?_, ⟨fun k hk => ?_, fun j hj => ?_⟩, fun j hj => ?_, ⟨?_, fun k hk => absurd hk (by show ¬ k < 0; omega)⟩, v31.trans nI_0.symm, v30⟩, v20.trans nI_0.symm, ?_, fun a i q => ?_⟩
  · rw [hz]
    unfold gX10_text_L47
    dsimp only
    rw [if_pos (by decide), hz2]
    unfold gX10_text_L86
    dsimp only
    rw [if_pos (by decide), zlet_eq, zlet_eq, zlet_eq, zlet_eq, zcV_some g1]
  · exact (v9 0 (by omega)).trans nI_0.symm
  · exact (v9 1 (by omega)).trans nI_0.symm
  · exact (v9 2 (by omega)).trans nI_0.symm
  · have lt := pdim_lt hc hd
    obtain ⟨rfl, hk⟩ : c = 12 ∧ k < 5 := by omega
    rw [pu_12, show 12 + k = 9 + (3 + k) by omega, v9 _ (by omega)]
    rcases (show k = 0 ∨ k = 1 ∨ k = 2 ∨ k = 3 ∨ k = 4 by omega) with rfl | rfl | rfl | rfl | rfl <;> rfl
  · rw [v19, bitI_0]
  · rw [v19, bitI_0]; rfl
  · obtain ⟨w1, w2⟩ := v112 j hj
    exact ⟨w1.trans nI_0.symm, w2.trans nI_0.symm⟩
  · exact (v9 8 (by omega)).trans nI_0.symm
  · rw [g2]; exact f2
  · unfold FRc at q
    rw [g3 a i (by omega), fr a i (by omega)]
/-! what was read becomes the plan -/
def hh (x : Nat) : Nat := if x = 100 then 9 else if x ≤ 104 then 6 else if x ≤ 108 then 8 else if x ≤ 111 then 10 else if x ≤ 113 then 3 else 64
def hfR (M : zM) (r : Nat) : zM := ((fun x i => if 100 ≤ x ∧ x < 100 + r ∧ i < hh x then M.1 x (hh x + i) else M.1 x i), M.2)
theorem hfR_0 (M : zM) : hfR M 0 = M := by
  refine Prod.ext ?_ rfl
  funext x i
  exact if_neg (by omega)
theorem r_half {M : zM} {r n0 : Nat} (hn : n0 = 2 * hh (100 + r)) (he : (Int32.ofNat n0) / 2 = nI (hh (100 + r))) : gX10_half (100 + r) n0 (hfR M r) = some (hfR M (r + 1)) := by
  have h64 : hh (100 + r) ≤ 64 := by
    unfold hh
    repeat' split
    all_goals omega
  unfold gX10_half
  rw [he]
  generalize hH : hh (100 + r) = H at *
  refine zfix_run (fun k => (nI k, ((fun x i => if x = 100 + r ∧ i < k then M.1 x (H + i) else (hfR M r).1 x i), M.2))) H ?_ (by unfold zFu; omega) ?_ ?_
  · rw [nI_0]
    congr 1
    refine Prod.ext ?_ rfl
    funext x i
    exact (if_neg (by omega)).symm
  · intro k hk rc
    unfold gX10_half_L7
    dsimp only
    rw [if_neg (nI_ge hk (by omega)), nI_add, zg_true (zok_nI (show H + k < n0 by omega) (by omega)), zg_true (zok_nI (show k < n0 by omega) (by omega)), zlet_eq, nI_cl (by omega), nI_cl (by omega), nI_1]
    congr 2
    refine Prod.ext ?_ rfl
    funext x i
    show (if x = 100 + r ∧ i = k then _ else _) = _
    dsimp only
    by_cases e : x = 100 + r ∧ i = k
    · rw [if_pos e, e.1, e.2, if_neg (by omega), if_pos (by omega)]
      exact if_neg (by omega)
    · rw [if_neg e]
      by_cases e2 : x = 100 + r ∧ i < k
      · rw [if_pos e2, if_pos (by omega)]
      · rw [if_neg e2, if_neg (by omega)]
  · intro rc
    unfold gX10_half_L7
    dsimp only
    rw [if_pos (nI_le (Nat.le_refl _) (by omega))]
    congr 1
    refine Prod.ext ?_ rfl
    funext x i
    show (if x = 100 + r ∧ i < H then _ else (if 100 ≤ x ∧ x < 100 + r ∧ i < hh x then _ else _)) = (if 100 ≤ x ∧ x < 100 + (r + 1) ∧ i < hh x then _ else _)
    by_cases e : x = 100 + r
    · rw [e, hH]
      by_cases e2 : i < H
      · rw [if_pos ⟨rfl, e2⟩, if_pos ⟨by omega, by omega, e2⟩]
      · rw [if_neg (fun w => e2 w.2), if_neg (by omega), if_neg (fun w => e2 w.2.2)]
    · rw [if_neg (fun w => e w.1)]
      by_cases e2 : 100 ≤ x ∧ x < 100 + r ∧ i < hh x
      · rw [if_pos e2, if_pos ⟨e2.1, by omega, e2.2.2⟩]
      · rw [if_neg e2, if_neg (fun w => e2 ⟨w.1, by omega, w.2.2⟩)]
theorem map_seg : ∀ {seg : List (Int32 × Int32)} {f : Nat → Int32 × Int32} {a : Nat}, (∀ k, k < seg.length → f (a + k) = seg.getD k (0, 0)) → (List.range' a seg.length).map f = seg := by
  intro seg
  induction seg with
  | nil => intro f a _; rfl
  | cons x xs ih =>
    intro f a h
    have h0 : f (a + 0) = x := h 0 (by rw [List.length_cons]; omega)
    show f a :: (List.range' (a + 1) xs.length).map f = x :: xs
    rw [show f a = x from h0, ih (fun k hk => by
      have := h (k + 1) (by rw [List.length_cons]; omega)
      rw [show a + 1 + k = a + (k + 1) by omega]
      exact this)]
/-- the plan as class and reference have it in common -/
def PP (n T L : Nat) (P : AV) : AV := fun c k => if pdim n T L c k = true then (if c = 0 then (if k = 0 then nI n else if k = 5 then nI T else nI L) else P c k) else 0
def qOf (n T L : Nat) (P : AV) (LW : LWr) (out : List (Int32 × Int32)) : PPt := (n, T, L, PP n T L P, fun j => (LW j).map (fun ae => ae.2), nI out.length)
theorem wfc_len {c : List (Int32 × Int32)} (h : wfc c) : 0 < c.length := by
  cases c with
  | nil => exact absurd (h 0).2 (by decide)
  | cons x xs => rw [List.length_cons]; omega
theorem c_plan {M : zM} {p n T L : Nat} {P : AV} {sd : Nat → Bool} {LW : LWr} {out : List (Int32 × Int32)} (hpl : zisPl p = true) (hC : cPs M p n T L P sd LW out) (hI : aI n T L P LW out) : cPl M p (qOf n T L P LW out) := by
  obtain ⟨C1, C2, C3, C4, C5, C6⟩ := hC
  obtain ⟨⟨i1, i2, i3, i4⟩, i5, i6, i7, i8, i9, i10⟩ := hI
  refine ⟨⟨hpl, ⟨C1.1, i1⟩, ⟨C1.2.1, i2⟩, ⟨C1.2.2, i3⟩, fun j hj => ?_⟩, ?_, fun j hj => ?_, C6⟩
  · cases hw : LW j with
    | none => exact Or.inl (by rw [(C4 j hj).1 hw]; decide)
    | some ae =>
      have c := (C4 j hj).2 ae hw
      have s := i10 j hj ae hw
      exact Or.inr ⟨ae.1, ae.1 + ae.2.length, c.1, c.2, by omega, by omega⟩
  · funext c k
    show (if pdim n T L c k = true then _ else _) = (if pdim n T L c k = true then _ else _)
    by_cases hd : pdim n T L c k = true
    · rw [if_pos hd, if_pos hd]
      by_cases c0 : c = 0
      · subst c0
        rw [if_pos rfl]
        have : k = 0 ∨ k = 5 ∨ k = 10 := by
          unfold pdim at hd
          rw [if_pos rfl] at hd
          exact of_decide_eq_true hd
        rcases this with rfl | rfl | rfl
        · exact C1.1
        · exact C1.2.1
        · exact C1.2.2
      · rw [if_neg c0]
        exact C2 c k (by omega) hd
    · rw [if_neg hd, if_neg hd]
  · show lawC M p j = (LW j).map (fun ae => ae.2)
    unfold lawC
    cases hw : LW j with
    | none =>
      rw [(C4 j hj).1 hw, if_neg (by decide)]
      rfl
    | some ae =>
      have c := (C4 j hj).2 ae hw
      have s := i10 j hj ae hw
      rw [c.1, c.2, if_pos (nI_nn (by omega)), nI_cl (by omega), nI_cl (by omega), show ae.1 + ae.2.length - ae.1 = ae.2.length by omega]
      show some _ = some ae.2
      congr 1
      refine map_seg (fun k hk => ?_)
      have o := C5.2 (ae.1 + k) (by omega)
      rw [s.2.2 k hk] at o
      exact Prod.ext o.1 o.2
theorem m_plan {M M' : zM} {n T L : Nat} {P : AV} {sd : Nat → Bool} {LW : LWr} {out : List (Int32 × Int32)} (hM : mPs M n T L P sd LW out) (hI : aI n T L P LW out) (hl : ∀ x i, 100 ≤ x → x ≤ 115 → i < hh x → M'.1 x i = M.1 x (hh x + i)) : mPl M' (qOf n T L P LW out) := by
  obtain ⟨D1, D2, D3, D4, D5, D6, D7⟩ := hM
  obtain ⟨⟨i1, i2, i3, i4⟩, i5, i6, i7, i8, i9, i10⟩ := hI
  have l112 : ∀ j, j < 3 → M'.1 112 j = nI (lwA LW j) ∧ M'.1 113 j = nI (lwB LW j) := fun j hj => by
    rw [hl 112 j (by omega) (by omega) (by show j < 3; omega), hl 113 j (by omega) (by omega) (by show j < 3; omega)]
    exact D4 j hj
  have k64 : ∀ k, k < out.length → cvK (M'.1 114 k) (M'.1 115 k) = out.getD k (0, 0) ∧ okK (M'.1 114 k, M'.1 115 k) := fun k hk => by
    rw [hl 114 k (by omega) (by omega) (by show k < 64; omega), hl 115 k (by omega) (by omega) (by show k < 64; omega)]
    exact D5.2 k hk
  have sgm : ∀ j, j < 3 → ∀ ae, LW j = some ae → (List.range' ae.1 ae.2.length).map (fun k => cvK (M'.1 114 k) (M'.1 115 k)) = ae.2 := fun j hj ae hw => by
    have s := i10 j hj ae hw
    exact map_seg (fun k hk => by rw [(k64 _ (by omega)).1, s.2.2 k hk])
  refine ⟨⟨⟨?_, i1⟩, ⟨?_, i2⟩, ⟨?_, i3⟩, fun j hj => ?_⟩, ?_, fun j hj => ?_, ?_⟩
  · rw [hl 100 0 (by omega) (by omega) (by show 0 < 9; omega)]; exact D1.1
  · rw [hl 100 1 (by omega) (by omega) (by show 1 < 9; omega)]; exact D1.2.1
  · rw [hl 100 2 (by omega) (by omega) (by show 2 < 9; omega)]; exact D1.2.2
  · have l := l112 j hj
    unfold lwA lwB at l
    cases hw : LW j with
    | none =>
      rw [hw] at l
      exact ⟨0, 0, l.1, l.2, by omega, by omega, fun k q1 q2 => by omega, fun q => by omega⟩
    | some ae =>
      rw [hw] at l
      have s := i10 j hj ae hw
      refine ⟨ae.1, ae.1 + ae.2.length, l.1, l.2, by omega, by omega, fun k q1 q2 => (k64 k (by omega)).2, fun _ => ?_⟩
      rw [show ae.1 + ae.2.length - ae.1 = ae.2.length by omega, sgm j hj ae hw]
      exact s.1 0
  · funext c k
    show (if pdim n T L c k = true then _ else _) = (if pdim n T L c k = true then _ else _)
    by_cases hd : pdim n T L c k = true
    · rw [if_pos hd, if_pos hd]
      by_cases c0 : c = 0
      · subst c0
        rw [if_pos rfl]
        have : k = 0 ∨ k = 5 ∨ k = 10 := by
          unfold pdim at hd
          rw [if_pos rfl] at hd
          exact of_decide_eq_true hd
        rcases this with rfl | rfl | rfl
        · show M'.1 100 0 = _
          rw [hl 100 0 (by omega) (by omega) (by show 0 < 9; omega)]; exact D1.1
        · show M'.1 100 1 = _
          rw [hl 100 1 (by omega) (by omega) (by show 1 < 9; omega)]; exact D1.2.1
        · show M'.1 100 2 = _
          rw [hl 100 2 (by omega) (by omega) (by show 2 < 9; omega)]; exact D1.2.2
      · rw [if_neg c0, ← D2 c k (by omega) hd]
        have lt := pdim_lt (by omega) hd
        rcases lt with q | q | q | q
        · rw [pu_4 q.1]
          rcases (show c = 1 ∨ c = 2 ∨ c = 3 ∨ c = 4 by omega) with rfl | rfl | rfl | rfl
          · exact hl 101 k (by omega) (by omega) (by show k < 6; omega)
          · exact hl 102 k (by omega) (by omega) (by show k < 6; omega)
          · exact hl 103 k (by omega) (by omega) (by show k < 6; omega)
          · exact hl 104 k (by omega) (by omega) (by show k < 6; omega)
        · rw [pu_8 ⟨q.1, q.2.1⟩]
          rcases (show c = 5 ∨ c = 6 ∨ c = 7 ∨ c = 8 by omega) with rfl | rfl | rfl | rfl
          · exact hl 105 k (by omega) (by omega) (by show k < 8; omega)
          · exact hl 106 k (by omega) (by omega) (by show k < 8; omega)
          · exact hl 107 k (by omega) (by omega) (by show k < 8; omega)
          · exact hl 108 k (by omega) (by omega) (by show k < 8; omega)
        · rw [pu_11 ⟨q.1, q.2.1⟩]
          rcases (show c = 9 ∨ c = 10 ∨ c = 11 by omega) with rfl | rfl | rfl
          · exact hl 109 k (by omega) (by omega) (by show k < 10; omega)
          · exact hl 110 k (by omega) (by omega) (by show k < 10; omega)
          · exact hl 111 k (by omega) (by omega) (by show k < 10; omega)
        · obtain ⟨rfl, hk⟩ := q
          rw [pu_12]
          show M'.1 100 (3 + k) = M.1 100 (12 + k)
          rw [hl 100 (3 + k) (by omega) (by omega) (by show 3 + k < 9; omega), show hh 100 + (3 + k) = 12 + k by show 9 + (3 + k) = _; omega]
    · rw [if_neg hd, if_neg hd]
  · have l := l112 j hj
    show lawM M' j = (LW j).map (fun ae => ae.2)
    unfold lawM
    unfold lwA lwB at l
    cases hw : LW j with
    | none =>
      rw [hw] at l
      rw [l.1, l.2, if_pos (by decide)]
      rfl
    | some ae =>
      rw [hw] at l
      have s := i10 j hj ae hw
      have := wfc_len s.1
      have l' : M'.1 112 j = nI ae.1 ∧ M'.1 113 j = nI (ae.1 + ae.2.length) := l
      rw [l'.1, l'.2, if_neg (nI_ge (by omega) (by omega)), nI_cl (by omega), nI_cl (by omega), show ae.1 + ae.2.length - ae.1 = ae.2.length by omega, sgm j hj ae hw]
      rfl
  · show M'.1 100 8 = nI out.length
    rw [hl 100 8 (by omega) (by omega) (by show 8 < 9; omega)]
    exact D5.1
theorem pI_of {n T L : Nat} {P : AV} {LW : LWr} {out : List (Int32 × Int32)} (hI : aI n T L P LW out) : pI (qOf n T L P LW out) := by
  obtain ⟨⟨i1, i2, i3, i4⟩, i5, i6, i7, i8, i9, i10⟩ := hI
  have pp : ∀ c k, c ≠ 0 → pdim n T L c k = true → PP n T L P c k = P c k := fun c k h1 h2 => by unfold PP; rw [if_pos h2, if_neg h1]
  refine ⟨⟨i1, i2, i3⟩, ⟨?_, ?_⟩, fun t ht => ?_, fun k hk => ?_, fun t ht => ?_, fun m hm => ?_⟩
  · obtain ⟨r, h1, h2⟩ := i8
    exact ⟨r, h1, by show PP n T L P 12 3 = _; rw [pp 12 3 (by omega) (pdS (by omega))]; exact h2⟩
  · obtain ⟨r, h1, h2⟩ := i9
    exact ⟨r, h1, by show PP n T L P 12 2 = _; rw [pp 12 2 (by omega) (pdS (by omega))]; exact h2⟩
  · obtain ⟨d, h1, h2, h3⟩ := (i6 t ht).2
    exact ⟨d, h1, h2, by show PP n T L P 7 t = _; rw [pp 7 t (by omega) (pdT (by omega) (by omega) ht)]; exact h3⟩
  · obtain ⟨m, h1, h2⟩ := i7 k hk
    exact ⟨m, h1, by show PP n T L P 9 k = _; rw [pp 9 k (by omega) (pdL (by omega) (by omega) hk)]; exact h2⟩
  · obtain ⟨d, h1, h2⟩ := (i6 t ht).1
    exact ⟨d, h1, by show PP n T L P 6 t = _; rw [pp 6 t (by omega) (pdT (by omega) (by omega) ht)]; exact h2⟩
  · obtain ⟨d, h1, h2⟩ := i5 m hm
    exact ⟨d, h1, by show PP n T L P 3 m = _; rw [pp 3 m (by omega) (pdN (by omega) (by omega) hm)]; exact h2⟩
