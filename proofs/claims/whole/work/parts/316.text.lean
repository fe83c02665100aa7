/-! ===== text() ===== -/
theorem J158_F {M : zM} {N f jf : Nat} {b : Nat → Nat} (h : rF M N b f jf) (hf : fOk f) : ∃ M', gX10_text_J158 M = some (-1, M') ∧ M'.2 = M.2 ∧ M'.1 98 28 = nI f ∧ M'.1 98 29 = nI (pl N b jf) ∧ ∀ a i, ¬ (a = 98 ∧ (i = 28 ∨ i = 29)) → M'.1 a i = M.1 a i := by
  unfold gX10_text_J158
  rw [zlet_eq, zlet_eq, if_neg (by rw [zI_of (by omega), zI_of (by omega)]; exact rF_n0 h hf)]
  refine ⟨_, rfl, rfl, ?_, ?_, fun a i q => by rw [zI_of (by omega), zI_of (by omega)]⟩
  · rw [zI_of (by omega), zI_at]; exact h.1
  · rw [zI_at, zI_of (by omega)]; exact h.2
theorem J158_ok {M : zM} {n T L : Nat} {P : AV} {sd : Nat → Bool} {LW : LWr} {out : List (Int32 × Int32)} (h26 : M.1 98 26 = 0) (h27 : M.1 98 27 = -1) (h51 : M.1 98 51 = 0) (hM : mPs M n T L P sd LW out) (hI : aI n T L P LW out) :
    ∃ M', gX10_text_J158 M = some (M.1 98 20, M') ∧ M'.2 = M.2 ∧ mPl M' (qOf n T L P LW out) ∧ mV M' (qOf n T L P LW out) 0 (sBegin n T (PP n T L P)) ∧ (M'.1 98 28 = 0 ∧ M'.1 98 29 = -1 ∧ M'.1 98 49 = 0 ∧ M'.1 98 50 = 0 ∧ M'.1 98 61 = 0 ∧ M'.1 98 62 = -1) ∧ ∀ a i, ¬ ((a = 98 ∧ (i = 28 ∨ i = 29 ∨ i = 49 ∨ i = 50 ∨ i = 61 ∨ i = 62)) ∨ (100 ≤ a ∧ a ≤ 115) ∨ CF 0 a i) → M'.1 a i = M.1 a i := by
  unfold gX10_text_J158
  rw [zlet_eq, zlet_eq, if_pos (by rw [zI_of (by omega), zI_of (by omega)]; exact h26)]
  have m1 : ∀ a i, ¬ (a = 98 ∧ (i = 28 ∨ i = 29)) → (zI (zI M 98 28 (M.1 98 26)) 98 29 ((zI M 98 28 (M.1 98 26)).1 98 27)).1 a i = M.1 a i := fun a i q => by rw [zI_of (by omega), zI_of (by omega)]
  have m28 : (zI (zI M 98 28 (M.1 98 26)) 98 29 ((zI M 98 28 (M.1 98 26)).1 98 27)).1 98 28 = 0 := by rw [zI_of (by omega), zI_at]; exact h26
  have m29 : (zI (zI M 98 28 (M.1 98 26)) 98 29 ((zI M 98 28 (M.1 98 26)).1 98 27)).1 98 29 = -1 := by rw [zI_at, zI_of (by omega)]; exact h27
  have m2 : (zI (zI M 98 28 (M.1 98 26)) 98 29 ((zI M 98 28 (M.1 98 26)).1 98 27)).2 = M.2 := rfl
  generalize zI (zI M 98 28 (M.1 98 26)) 98 29 ((zI M 98 28 (M.1 98 26)).1 98 27) = M5 at m1 m28 m29 m2 ⊢
  have e0 : gX10_half 100 18 M5 = some (hfR M5 1) := by
    have := r_half (M := M5) (r := 0) (n0 := 18) rfl (by decide)
    rw [hfR_0] at this
    exact this
  have e1 : gX10_half 101 12 (hfR M5 1) = some (hfR M5 2) := r_half (r := 1) rfl (by decide)
  have e2 : gX10_half 102 12 (hfR M5 2) = some (hfR M5 3) := r_half (r := 2) rfl (by decide)
  have e3 : gX10_half 103 12 (hfR M5 3) = some (hfR M5 4) := r_half (r := 3) rfl (by decide)
  have e4 : gX10_half 104 12 (hfR M5 4) = some (hfR M5 5) := r_half (r := 4) rfl (by decide)
  have e5 : gX10_half 105 16 (hfR M5 5) = some (hfR M5 6) := r_half (r := 5) rfl (by decide)
  have e6 : gX10_half 106 16 (hfR M5 6) = some (hfR M5 7) := r_half (r := 6) rfl (by decide)
  have e7 : gX10_half 107 16 (hfR M5 7) = some (hfR M5 8) := r_half (r := 7) rfl (by decide)
  have e8 : gX10_half 108 16 (hfR M5 8) = some (hfR M5 9) := r_half (r := 8) rfl (by decide)
  have e9 : gX10_half 109 20 (hfR M5 9) = some (hfR M5 10) := r_half (r := 9) rfl (by decide)
  have e10 : gX10_half 110 20 (hfR M5 10) = some (hfR M5 11) := r_half (r := 10) rfl (by decide)
  have e11 : gX10_half 111 20 (hfR M5 11) = some (hfR M5 12) := r_half (r := 11) rfl (by decide)
  have e12 : gX10_half 112 6 (hfR M5 12) = some (hfR M5 13) := r_half (r := 12) rfl (by decide)
  have e13 : gX10_half 113 6 (hfR M5 13) = some (hfR M5 14) := r_half (r := 13) rfl (by decide)
  have e14 : gX10_half 114 128 (hfR M5 14) = some (hfR M5 15) := r_half (r := 14) rfl (by decide)
  have e15 : gX10_half 115 128 (hfR M5 15) = some (hfR M5 16) := r_half (r := 15) rfl (by decide)
  rw [zcV_some e0, zcV_some e1, zcV_some e2, zcV_some e3, zcV_some e4, zcV_some e5, zcV_some e6, zcV_some e7, zcV_some e8, zcV_some e9, zcV_some e10, zcV_some e11, zcV_some e12, zcV_some e13, zcV_some e14, zcV_some e15, zlet_eq, zlet_eq, zlet_eq, zlet_eq]
  have ho : ∀ a i, ¬ (100 ≤ a ∧ a ≤ 115) → (hfR M5 16).1 a i = M5.1 a i := fun a i q => if_neg (by omega)
  have hl : ∀ x i, 100 ≤ x → x ≤ 115 → i < hh x → (hfR M5 16).1 x i = M.1 x (hh x + i) := fun x i q1 q2 q3 => by
    rw [← m1 x (hh x + i) (by omega)]
    exact if_pos ⟨q1, by omega, q3⟩
  have h2 : (hfR M5 16).2 = M.2 := m2
  generalize hfR M5 16 = M57 at ho hl h2 ⊢
  have n1 : ∀ a i, ¬ (a = 98 ∧ (i = 49 ∨ i = 50 ∨ i = 61 ∨ i = 62)) → (zI (zI (zI (zI M57 98 61 0) 98 62 (-1)) 98 49 0) 98 50 0).1 a i = M57.1 a i := fun a i q => by rw [zI_of (by omega), zI_of (by omega), zI_of (by omega), zI_of (by omega)]
  have n61 : (zI (zI (zI (zI M57 98 61 0) 98 62 (-1)) 98 49 0) 98 50 0).1 98 61 = 0 := by rw [zI_of (by omega), zI_of (by omega), zI_of (by omega), zI_at]
  have n62 : (zI (zI (zI (zI M57 98 61 0) 98 62 (-1)) 98 49 0) 98 50 0).1 98 62 = -1 := by rw [zI_of (by omega), zI_of (by omega), zI_at]
  have n49 : (zI (zI (zI (zI M57 98 61 0) 98 62 (-1)) 98 49 0) 98 50 0).1 98 49 = 0 := by rw [zI_of (by omega), zI_at]
  have n50 : (zI (zI (zI (zI M57 98 61 0) 98 62 (-1)) 98 49 0) 98 50 0).1 98 50 = 0 := zI_at
  have n2 : (zI (zI (zI (zI M57 98 61 0) 98 62 (-1)) 98 49 0) 98 50 0).2 = M57.2 := rfl
  generalize zI (zI (zI (zI M57 98 61 0) 98 62 (-1)) 98 49 0) 98 50 0 = M65 at n1 n61 n62 n49 n50 n2 ⊢
  have hP : mPl M65 (qOf n T L P LW out) := m_plan hM hI (fun x i q1 q2 q3 => by rw [n1 _ _ (by omega)]; exact hl x i q1 q2 q3)
  obtain ⟨M', g1, g2, g3, g4⟩ := r_starts (f := 0) hP.1 (by omega) (by rw [n1 _ _ (by omega), ho _ _ (by omega), m1 _ _ (by omega)]; exact h51)
  have eb : gX10_begins M65 = some M' := by
    unfold gX10_begins
    rw [zcV_some (show gX10_starts 0 M65 = _ from g1)]
  have k98 : ∀ i, M'.1 98 i = M65.1 98 i := fun i => g3 98 i CF_98
  rw [zcV_some eb, k98, n1 _ _ (by omega), ho _ _ (by omega), m1 _ _ (by omega)]
  have c100 : ∀ a i, 100 ≤ a → a ≤ 115 → ¬ CF 0 a i := fun a i q1 q2 => by unfold CF; omega
  refine ⟨M', rfl, by rw [g2, n2, h2], hP.mono (fun a i q1 q2 => g3 a i (c100 a i q1 q2)), ?_, ⟨?_, ?_, ?_, ?_, ?_, ?_⟩, fun a i q => ?_⟩
  · unfold mV
    exact (show vM n T M' 0 = sBegin n T (pM n T L M65) from g4).trans (congrArg (sBegin n T) hP.2.1)
  · rw [k98, n1 _ _ (by omega), ho _ _ (by omega)]; exact m28
  · rw [k98, n1 _ _ (by omega), ho _ _ (by omega)]; exact m29
  · rw [k98]; exact n49
  · rw [k98]; exact n50
  · rw [k98]; exact n61
  · rw [k98]; exact n62
  · rw [g3 a i (fun w => q (Or.inr (Or.inr w))), n1 a i (by omega), ho a i (by omega), m1 a i (by omega)]
/-! the class's end -/
def cT9 (v5_ : Int32) (M6_ : zM) : Option (Int32 × zM) := zlet (zI M6_ 0 5 (M6_.1 47 0)) (fun M8_ => zlet (zI M8_ 0 6 (M8_.1 47 1)) (fun M10_ => (if 0 ≤ v5_ then zgP (M10_.2.2 0 3) (fun p12_ => zgP (M10_.2.2 0 2) (fun p14_ => zlet (zF M10_ 0 3 p14_) (fun M16_ => zlet (zF M16_ 0 2 p12_) (fun M18_ => zgP (M18_.2.2 0 2) (fun p20_ => zcV (gX8_begin 55 p20_ M18_) (fun M22_ => zlet (zI M22_ 0 10 0) (fun M24_ => zlet (zI M24_ 85 0 0) (fun M26_ => zcV (gX4_clear M26_) (fun M28_ => some (v5_, M28_))))))))))
  else some ((-1), M10_))))
theorem cT9_F {M : zM} : ∃ Me, cT9 (-1) M = some (-1, Me) ∧ Me.2 = M.2 ∧ Me.1 0 5 = M.1 47 0 ∧ Me.1 0 6 = M.1 47 1 ∧ ∀ a i, ¬ (a = 0 ∧ (i = 5 ∨ i = 6)) → Me.1 a i = M.1 a i := by
  unfold cT9
  rw [zlet_eq, zlet_eq, if_neg (by decide)]
  refine ⟨_, rfl, rfl, ?_, ?_, fun a i q => by rw [zI_of (by omega), zI_of (by omega)]⟩
  · rw [zI_of (by omega), zI_at]
  · rw [zI_at, zI_of (by omega)]
theorem cT9_ok {M : zM} {p s n T L l : Nat} {P : AV} {sd : Nat → Bool} {LW : LWr} {out : List (Int32 × Int32)} (hl : l ≤ 700) (hp : zisPl p = true) (hs : zisPl s = true) (hr2 : M.2.2 0 2 = some p) (hr3 : M.2.2 0 3 = some s) (hC : cPs M s n T L P sd LW out) (hI : aI n T L P LW out) :
    ∃ Me, cT9 (nI l) M = some (nI l, Me) ∧ (Me.2.2 0 2 = some s ∧ Me.2.2 0 3 = some p ∧ Me.2.2 55 0 = some s) ∧ cPl Me s (qOf n T L P LW out) ∧ cV Me (qOf n T L P LW out) 55 (sBegin n T (PP n T L P)) ∧ (Me.1 0 5 = M.1 47 0 ∧ Me.1 0 6 = M.1 47 1 ∧ Me.1 0 10 = 0 ∧ Me.1 85 0 = 0 ∧ Me.1 89 0 = 0 ∧ Me.1 89 1 = -1) ∧ ∀ a i, ¬ ((a = 0 ∧ (i = 5 ∨ i = 6 ∨ i = 10)) ∨ (55 ≤ a ∧ a ≤ 64) ∨ (a = 85 ∧ i = 0) ∨ (a = 89 ∧ i ≤ 1)) → Me.1 a i = M.1 a i := by
  have hs26 := isPl_lt hs
  have h5 := zisPl_of hs
  unfold isPl at h5
  unfold cT9
  rw [zlet_eq, zlet_eq, if_pos (nI_nn (by omega))]
  have m1 : ∀ a i, ¬ (a = 0 ∧ (i = 5 ∨ i = 6)) → (zI (zI M 0 5 (M.1 47 0)) 0 6 ((zI M 0 5 (M.1 47 0)).1 47 1)).1 a i = M.1 a i := fun a i q => by rw [zI_of (by omega), zI_of (by omega)]
  have m5 : (zI (zI M 0 5 (M.1 47 0)) 0 6 ((zI M 0 5 (M.1 47 0)).1 47 1)).1 0 5 = M.1 47 0 := by rw [zI_of (by omega), zI_at]
  have m6 : (zI (zI M 0 5 (M.1 47 0)) 0 6 ((zI M 0 5 (M.1 47 0)).1 47 1)).1 0 6 = M.1 47 1 := by rw [zI_at, zI_of (by omega)]
  have m2 : (zI (zI M 0 5 (M.1 47 0)) 0 6 ((zI M 0 5 (M.1 47 0)).1 47 1)).2 = M.2 := rfl
  generalize zI (zI M 0 5 (M.1 47 0)) 0 6 ((zI M 0 5 (M.1 47 0)).1 47 1) = M10 at m1 m5 m6 m2 ⊢
  rw [zgP_some (show M10.2.2 0 3 = some s by rw [m2]; exact hr3) hs, zgP_some (show M10.2.2 0 2 = some p by rw [m2]; exact hr2) hp, zlet_eq, zlet_eq, zgP_some (show (zF (zF M10 0 3 p) 0 2 s).2.2 0 2 = some s from zF_at) hs]
  have hP10 : cPl M10 s (qOf n T L P LW out) := (c_plan hs hC hI).mono (fun a i q1 q2 => m1 a i (by omega))
  have hP18 : cPl (zF (zF M10 0 3 p) 0 2 s) s (qOf n T L P LW out) := hP10.mono (fun a i _ _ => rfl)
  obtain ⟨M22, g1, g2, g3, g4, g5, g6⟩ := s_begin (w := 55) (Or.inl rfl) hP18.1
  rw [zcV_some g1, zlet_eq, zlet_eq]
  unfold gX4_clear
  rw [zlet_eq, zlet_eq, zcV_some rfl]
  have k1 : ∀ a i, ¬ ((a = 0 ∧ i = 10) ∨ (a = 85 ∧ i = 0) ∨ (a = 89 ∧ i ≤ 1)) → (zI (zI (zI (zI M22 0 10 0) 85 0 0) 89 0 0) 89 1 (-1)).1 a i = M22.1 a i := fun a i q => by rw [zI_of (by omega), zI_of (by omega), zI_of (by omega), zI_of (by omega)]
  have k2 : ∀ a i, ¬ ((a = 0 ∧ i = 10) ∨ (55 ≤ a ∧ a ≤ 64) ∨ (a = 85 ∧ i = 0) ∨ (a = 89 ∧ i ≤ 1)) → (zI (zI (zI (zI M22 0 10 0) 85 0 0) 89 0 0) 89 1 (-1)).1 a i = M10.1 a i := fun a i q => by
    rw [k1 a i (by omega), congrFun (g2 a (by omega)) i]
    rfl
  refine ⟨_, rfl, ⟨?_, ?_, ?_⟩, hP10.mono (fun a i q1 q2 => k2 a i (by omega)), ?_, ⟨?_, ?_, ?_, ?_, ?_, ?_⟩, fun a i q => ?_⟩
  · show M22.2.2 0 2 = some s
    rw [g4, zF_of (by omega)]
    exact zF_at
  · show M22.2.2 0 3 = some p
    rw [g4, zF_of (by omega), zF_of (by omega)]
    exact zF_at
  · show M22.2.2 55 0 = some s
    rw [g4]
    exact zF_at
  · have c22 : cV M22 (qOf n T L P LW out) 55 (sBegin n T (PP n T L P)) := by
      exact (show vC n T M22 55 = sBegin n T (pC n T L (zF (zF M10 0 3 p) 0 2 s) s) from g5).trans (congrArg (sBegin n T) hP18.2.1)
    exact c22.mono (fun a i q1 q2 q3 => k1 a i (by omega))
  · rw [k2 _ _ (by omega)]; exact m5
  · rw [k2 _ _ (by omega)]; exact m6
  · rw [zI_of (by omega), zI_of (by omega), zI_of (by omega), zI_at]
  · rw [zI_of (by omega), zI_of (by omega), zI_at]
  · rw [zI_of (by omega), zI_at]
  · exact zI_at
  · rw [k2 a i (by omega), m1 a i (by omega)]
/-! what stays with a FAULT -/
theorem map_rng {f g : Nat → Int32 × Int32} : ∀ (len a : Nat), (∀ k, a ≤ k → k < a + len → f k = g k) → (List.range' a len).map f = (List.range' a len).map g := by
  intro len
  induction len with
  | zero => intro a _; rfl
  | succ len ih =>
    intro a h
    show f a :: (List.range' (a + 1) len).map f = g a :: (List.range' (a + 1) len).map g
    rw [h a (Nat.le_refl _) (by omega), ih (a + 1) (fun k q1 q2 => h k (by omega) (by omega))]
theorem mPl.lo {M M' : zM} {q : PPt} (h : mPl M q) (he : ∀ x i, 100 ≤ x → x ≤ 115 → i < hh x → M'.1 x i = M.1 x i) : mPl M' q := by
  obtain ⟨⟨k1, k2, k3, k4⟩, h2, h3, h4⟩ := h
  have e3 : ∀ j, j < 3 → M'.1 112 j = M.1 112 j ∧ M'.1 113 j = M.1 113 j := fun j hj => ⟨he 112 j (by omega) (by omega) (by show j < 3; omega), he 113 j (by omega) (by omega) (by show j < 3; omega)⟩
  have e64 : ∀ k, k < 64 → M'.1 114 k = M.1 114 k ∧ M'.1 115 k = M.1 115 k := fun k hk => ⟨he 114 k (by omega) (by omega) (by show k < 64; omega), he 115 k (by omega) (by omega) (by show k < 64; omega)⟩
  have em : ∀ a e, e ≤ 64 → (List.range' a (e - a)).map (fun k => cvK (M'.1 114 k) (M'.1 115 k)) = (List.range' a (e - a)).map (fun k => cvK (M.1 114 k) (M.1 115 k)) := fun a e hE => map_rng _ _ (fun k q1 q2 => by rw [(e64 k (by omega)).1, (e64 k (by omega)).2])
  have e9 : ∀ i, i < 9 → M'.1 100 i = M.1 100 i := fun i hi => he 100 i (by omega) (by omega) hi
  refine ⟨⟨⟨by rw [e9 0 (by omega)]; exact k1.1, k1.2⟩, ⟨by rw [e9 1 (by omega)]; exact k2.1, k2.2⟩, ⟨by rw [e9 2 (by omega)]; exact k3.1, k3.2⟩, fun j hj => ?_⟩, ?_, fun j hj => ?_, by rw [e9 8 (by omega)]; exact h4⟩
  · obtain ⟨a, e, g1, g2, g3, g4, g5, g6⟩ := k4 j hj
    refine ⟨a, e, by rw [(e3 j hj).1]; exact g1, by rw [(e3 j hj).2]; exact g2, g3, g4, fun k q1 q2 => by rw [(e64 k (by omega)).1, (e64 k (by omega)).2]; exact g5 k q1 q2, fun w => ?_⟩
    rw [em a e g4]
    exact g6 w
  · rw [← h2]
    funext c k
    unfold pM
    by_cases hd : pdim q.1 q.2.1 q.2.2.1 c k = true
    · rw [if_pos hd, if_pos hd]
      by_cases c0 : c = 0
      · subst c0
        have : k = 0 ∨ k = 5 ∨ k = 10 := by
          unfold pdim at hd
          rw [if_pos rfl] at hd
          exact of_decide_eq_true hd
        rcases this with rfl | rfl | rfl
        · exact e9 0 (by omega)
        · exact e9 1 (by omega)
        · exact e9 2 (by omega)
      · have lt := pdim_lt (by omega) hd
        have n6 : q.1 ≤ 6 := k1.2
        have t8 : q.2.1 ≤ 8 := k2.2
        have l10 : q.2.2.1 ≤ 10 := k3.2
        rcases lt with w | w | w | w
        · rcases (show c = 1 ∨ c = 2 ∨ c = 3 ∨ c = 4 by omega) with rfl | rfl | rfl | rfl
          · exact he 101 k (by omega) (by omega) (by show k < 6; omega)
          · exact he 102 k (by omega) (by omega) (by show k < 6; omega)
          · exact he 103 k (by omega) (by omega) (by show k < 6; omega)
          · exact he 104 k (by omega) (by omega) (by show k < 6; omega)
        · rcases (show c = 5 ∨ c = 6 ∨ c = 7 ∨ c = 8 by omega) with rfl | rfl | rfl | rfl
          · exact he 105 k (by omega) (by omega) (by show k < 8; omega)
          · exact he 106 k (by omega) (by omega) (by show k < 8; omega)
          · exact he 107 k (by omega) (by omega) (by show k < 8; omega)
          · exact he 108 k (by omega) (by omega) (by show k < 8; omega)
        · rcases (show c = 9 ∨ c = 10 ∨ c = 11 by omega) with rfl | rfl | rfl
          · exact he 109 k (by omega) (by omega) (by show k < 10; omega)
          · exact he 110 k (by omega) (by omega) (by show k < 10; omega)
          · exact he 111 k (by omega) (by omega) (by show k < 10; omega)
        · obtain ⟨rfl, hk⟩ := w
          exact e9 (3 + k) (by omega)
    · rw [if_neg hd, if_neg hd]
  · rw [← h3 j hj]
    obtain ⟨a, e, g1, g2, g3, g4, g5, g6⟩ := k4 j hj
    unfold lawM
    rw [(e3 j hj).1, (e3 j hj).2, g1, g2, nI_cl (by omega), nI_cl (by omega), em a e g4]
theorem ma_row {f c k : Nat} : 118 ≤ (ma f c k).1 ∧ (ma f c k).1 ≤ 131 := by
  unfold ma
  repeat' split
  all_goals simp
theorem mV.hi {M M' : zM} {q : PPt} {f : Nat} {V : AV} (h : mV M q f V) (he : ∀ a i, 118 ≤ a → a ≤ 131 → M'.1 a i = M.1 a i) (h1 : M'.1 98 51 = M.1 98 51) (h2 : M'.1 98 52 = M.1 98 52) : mV M' q f V := by
  unfold mV at h ⊢
  rw [← h]
  exact vM_keeps (fun c k hd => he _ _ ma_row.1 ma_row.2) h1 h2
theorem byte_all : ∀ n : Fin 256, ((Int8.ofNat n.val).toInt32 = 32 ↔ (Int8.ofNat n.val).toInt32 &&& 255 = 32) ∧ ((Int8.ofNat n.val).toInt32 = 10 ↔ (Int8.ofNat n.val).toInt32 &&& 255 = 10) := by decide +kernel
theorem byte_iff (w : Int8) : (w.toInt32 = 32 ↔ w.toInt32 &&& 255 = 32) ∧ (w.toInt32 = 10 ↔ w.toInt32 &&& 255 = 10) := by
  have e : w = Int8.ofNat w.toBitVec.toNat := by
    apply Int8.toBitVec_inj.mp
    show w.toBitVec = BitVec.ofNat 8 _
    rw [BitVec.ofNat_toNat, BitVec.setWidth_eq]
  rw [e]
  exact byte_all ⟨w.toBitVec.toNat, w.toBitVec.isLt⟩
