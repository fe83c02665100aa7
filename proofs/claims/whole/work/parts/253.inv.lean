/-! what a STEP keeps, all in all -/
theorem sBurn_row {V : AV} {t c : Nat} (h : c ≠ 8) : sBurn V t c = V c := by
  unfold sBurn
  repeat' split
  all_goals first | rfl | rw [vset_row h]
theorem sBurns_row {V : AV} {c : Nat} (h : c ≠ 8) (k : Nat) : sBurns V k c = V c := by
  induction k with
  | zero => rfl
  | succ k ih => unfold sBurns; rw [sBurn_row h, ih]
theorem sGrow_row {P V : AV} {wy : Int32} {c : Nat} (h : c ≠ 0) : sGrow P V wy c = V c := by
  unfold sGrow
  split
  · dsimp only; rw [vset_row h, vset_row h]
  · rw [vset_row h]
theorem sMove_row {P V : AV} {LW : LWt} {wy : Int32} {m c : Nat} (h0 : c ≠ 0) (h2 : c ≠ 2) (h4 : c ≠ 4) (h5 : c ≠ 5) (h6 : c ≠ 6) (h8 : c ≠ 8) : sMove P V LW wy m c = V c := by
  unfold sMove
  split
  · unfold sMove1
    try dsimp only
    repeat' split
    all_goals (try rw [sSave_row h0 h8 h2])
    all_goals (try rw [vset_row h8])
    all_goals (try rw [sLeave_row h4 h5 h6])
    all_goals (try rw [vset_row h0])
    all_goals (try rw [vset_row h6])
  · rfl
theorem sMoves_row {P V : AV} {LW : LWt} {wy : Int32} {c : Nat} (h0 : c ≠ 0) (h2 : c ≠ 2) (h4 : c ≠ 4) (h5 : c ≠ 5) (h6 : c ≠ 6) (h8 : c ≠ 8) (k : Nat) : sMoves P LW wy V k c = V c := by
  induction k with
  | zero => rfl
  | succ k ih => unfold sMoves; rw [sMove_row h0 h2 h4 h5 h6 h8, ih]
theorem sSend_row {P V : AV} {LW : LWt} {n T m c : Nat} {wi : Int32} (h4 : c ≠ 4) (h5 : c ≠ 5) (h6 : c ≠ 6) : (sSend P V LW n T m wi).1 c = V c := by
  unfold sSend
  repeat' split
  all_goals first | rfl | (dsimp only; rw [vset_row h6, vset_row h5, vset_row h4])
theorem sSends_row {P V : AV} {LW : LWt} {n T c : Nat} {wi : Int32} (h4 : c ≠ 4) (h5 : c ≠ 5) (h6 : c ≠ 6) (k : Nat) : (sSends P LW n T V wi k).1 c = V c := by
  induction k with
  | zero => rfl
  | succ k ih => unfold sSends; rw [sSend_row h4 h5 h6, ih]
theorem sMoves_in {P V : AV} {LW : LWt} {wy : Int32} {n T : Nat} (hT : T ≤ 8) (h : vIn P V n T) (k : Nat) : vIn P (sMoves P LW wy V k) n T := by
  induction k with
  | zero => exact h
  | succ k ih => unfold sMoves; exact sMove_in hT ih
theorem sMoves_ru {P V : AV} {LW : LWt} {wy : Int32} {n : Nat} (h : vRu V n) (k : Nat) : vRu (sMoves P LW wy V k) n := by
  induction k with
  | zero => exact h
  | succ k ih => unfold sMoves; exact sMove_ru ih
theorem vIn_rows {P V V' : AV} {n T : Nat} (h : vIn P V n T) (e4 : V' 4 = V 4) (e5 : V' 5 = V 5) (e6 : V' 6 = V 6) : vIn P V' n T := by
  intro m hm h1
  rw [e4] at h1
  rw [e5, e6]
  exact h m hm h1
def sW1 (P : AV) (L : Nat) (wy : Int32) (V : AV) : AV := if wy &&& 16 = 0 then sPays P V L else V
theorem sW1_row {P V : AV} {L c : Nat} {wy : Int32} (h0 : c ≠ 0) (h3 : c ≠ 3) : sW1 P L wy V c = V c := by
  unfold sW1
  split
  · exact sPays_row h0 h3 L
  · rfl
def sW4 (T : Nat) (wy : Int32) (V : AV) : AV := if wy &&& 8 = 0 then sBurns V T else V
theorem sW4_row {V : AV} {T c : Nat} {wy : Int32} (h : c ≠ 8) : sW4 T wy V c = V c := by
  unfold sW4
  split
  · exact sBurns_row h T
  · rfl
theorem sPass_1 {P V : AV} {LW : LWt} {n T L : Nat} {wy : Int32} : (sPass P LW n T L wy V).1 = vset (sGrow P (sW4 T wy (sMoves P LW wy (sSends P LW n T (sW1 P L wy V) 0 n).1 n)) wy) 0 10 (sGrow P (sW4 T wy (sMoves P LW wy (sSends P LW n T (sW1 P L wy V) 0 n).1 n)) wy 0 10 + 1) := rfl
theorem sPass_2 {P V : AV} {LW : LWt} {n T L : Nat} {wy : Int32} : (sPass P LW n T L wy V).2 = (sSends P LW n T (sW1 P L wy V) 0 n).2 := rfl
theorem sPass_row {P V : AV} {LW : LWt} {n T L c : Nat} {wy : Int32} (h : c = 1 ∨ c = 7 ∨ c = 9) : (sPass P LW n T L wy V).1 c = V c := by
  rw [sPass_1, vset_row (by omega), sGrow_row (by omega), sW4_row (by omega), sMoves_row (by omega) (by omega) (by omega) (by omega) (by omega) (by omega), sSends_row (by omega) (by omega) (by omega), sW1_row (by omega) (by omega)]
theorem sPass_inv {P V : AV} {LW : LWt} {n T L : Nat} {wy : Int32} (hT : T ≤ 8) (hD : pDp P T) (h : vInv P V n T) : vInv P (sPass P LW n T L wy V).1 n T := by
  obtain ⟨h1, h2, h3⟩ := h
  have g2 : vIn P (sW1 P L wy V) n T := vIn_rows h2 (sW1_row (by decide) (by decide)) (sW1_row (by decide) (by decide)) (sW1_row (by decide) (by decide))
  have g3 : vRu (sW1 P L wy V) n := vRu_row h3 (sW1_row (by decide) (by decide))
  have k2 : vIn P (sSends P LW n T (sW1 P L wy V) 0 n).1 n T := sSends_in g2 hD n
  have k3 : vRu (sSends P LW n T (sW1 P L wy V) 0 n).1 n := vRu_row g3 (sSends_2 n)
  have m2 := sMoves_in (LW := LW) (wy := wy) hT k2 n
  have m3 := sMoves_ru (P := P) (LW := LW) (wy := wy) k3 n
  have er : ∀ c, c ≠ 0 → c ≠ 8 → (sPass P LW n T L wy V).1 c = sMoves P LW wy (sSends P LW n T (sW1 P L wy V) 0 n).1 n c := fun c hc h8 => by
    rw [sPass_1, vset_row hc, sGrow_row hc, sW4_row h8]
  refine ⟨fun k hk => by rw [sPass_row (Or.inl rfl)]; exact h1 k hk, vIn_rows m2 (er 4 (by decide) (by decide)) (er 5 (by decide) (by decide)) (er 6 (by decide) (by decide)), vRu_row m3 (er 2 (by decide) (by decide))⟩
theorem sSends_gz {P V : AV} {LW : LWt} {n T : Nat} {wi : Int32} (h : vGz V n) (k : Nat) : vGz (sSends P LW n T V wi k).1 n := by
  induction k with
  | zero => exact h
  | succ k ih =>
    unfold sSends
    generalize (sSends P LW n T V wi k).1 = U at ih ⊢
    generalize (U 1 k).toNatClampNeg = m
    unfold sSend
    repeat' split
    all_goals first | exact ih | skip
    dsimp only
    intro i hi
    by_cases e : i = m
    · subst e
      left
      rw [vset_ne (by omega), vset_ne (by omega), vset_at]
    · rw [vset_ne (by omega), vset_ne (by omega), vset_ne (by omega), vset_ne (by omega), vset_ne (by omega), vset_ne (by omega)]
      exact ih i hi
theorem sMove_gz {P V : AV} {LW : LWt} {wy : Int32} {n m : Nat} (h : vGz V n) : vGz (sMove P V LW wy m) n := by
  intro k hk
  by_cases e : k = m
  · subst e
    by_cases h4 : V 4 k = 1
    · have l5 : ∀ (U : AV) (x : Int32), sLeave U k x 5 k = -2 := fun U x => by
        unfold sLeave
        rw [vset_ne (by omega), vset_at]
      have a : ∀ x, vset (vset V 6 k (V 6 k + 1)) 0 14 x 4 k = 1 := fun x => by rw [vset_ne (by omega), vset_ne (by omega)]; exact h4
      unfold sMove sMove1
      rw [if_pos h4]
      try dsimp only
      repeat' split
      · right; rw [vset_ne (by omega), l5]
      · right; rw [l5]
      · left; rw [vset_ne (by omega)]; exact a _
      · left; exact a _
      · right; rw [sSave_row (by decide) (by decide) (by decide), l5]
      · right; rw [l5]
      · left; exact a _
    · unfold sMove
      rw [if_neg h4]
      exact h k hk
  · rw [sMove_45 (Or.inl rfl) e, sMove_45 (Or.inr rfl) e]
    exact h k hk
theorem sMoves_gz {P V : AV} {LW : LWt} {wy : Int32} {n : Nat} (h : vGz V n) (k : Nat) : vGz (sMoves P LW wy V k) n := by
  induction k with
  | zero => exact h
  | succ k ih => unfold sMoves; exact sMove_gz ih
theorem sPass_gz {P V : AV} {LW : LWt} {n T L : Nat} {wy : Int32} (h : vGz V n) : vGz (sPass P LW n T L wy V).1 n := by
  have a : vGz (sMoves P LW wy (sSends P LW n T (sW1 P L wy V) 0 n).1 n) n := sMoves_gz (sSends_gz (fun m hm => by rw [sW1_row (by decide) (by decide), sW1_row (by decide) (by decide)]; exact h m hm) n) n
  intro m hm
  rw [sPass_1, vset_row (by decide), sGrow_row (by decide), sW4_row (by decide), vset_row (by decide), sGrow_row (by decide), sW4_row (by decide)]
  exact a m hm
theorem sPass_wI {q : PPt} {V : AV} {wy : Int32} (hq : pI q) (h : wI q V) : wI q (sPass q.2.2.2.1 q.2.2.2.2.1 q.1 q.2.1 q.2.2.1 wy V).1 :=
  ⟨sPass_inv hq.1.2.1 hq.2.2.1 h.1, fun m hm => by rw [sPass_row (Or.inr (Or.inl rfl))]; exact h.2.1 m hm, fun i j hi hj => by rw [sPass_row (Or.inl rfl)]; exact h.2.2.1 i j hi hj, sPass_gz h.2.2.2⟩
/-! what is SAVED stays so -/
theorem sSave_8 {P V : AV} {LW : LWt} {m t t' : Nat} (h : V 8 t' = 2) : sSave P V LW m t 8 t' = 2 := by
  have a : sSave1 P V t 8 t' = 2 := by
    unfold sSave1
    rw [vset_ne (by omega)]
    by_cases e : t' = t
    · subst e; exact vset_at
    · rw [vset_ne (by omega)]; exact h
  unfold sSave
  cases sLaw LW 1 (sFacts P (sSave1 P V t) m (some t) 0) with
  | none => exact a
  | some v =>
    show vset (sSave1 P V t) 2 m (sRue (V 2 m) (sClamp v)) 8 t' = 2
    rw [vset_ne (by omega)]; exact a
theorem sMove1_8 {P V : AV} {LW : LWt} {wy : Int32} {m t t' : Nat} (h : V 8 t' = 2) : sMove1 P V LW wy m t 8 t' = 2 := by
  unfold sMove1
  try dsimp only
  generalize (sHurt P V LW wy m t).2 = x
  have a : vset V 0 14 x 8 t' = 2 := by rw [vset_ne (by omega)]; exact h
  generalize vset V 0 14 x = V2 at a ⊢
  have l : ∀ y, sLeave V2 m y 8 t' = 2 := fun y => by
    rw [sLeave_row (by decide) (by decide) (by decide)]; exact a
  split
  · split
    · rename_i h1
      by_cases e : t' = t
      · subst e
        rw [l] at h1
        exact absurd h1 (by decide)
      · rw [vset_ne (by omega)]; exact l 2
    · exact l 2
  · split
    · split
      · rename_i h1
        by_cases e : t' = t
        · subst e
          rw [a] at h1
          exact absurd h1 (by decide)
        · rw [vset_ne (by omega)]; exact a
      · exact a
    · split
      · split
        · exact sSave_8 (l 0)
        · exact l 0
      · exact a
theorem sMove_8 {P V : AV} {LW : LWt} {wy : Int32} {m t' : Nat} (h : V 8 t' = 2) : sMove P V LW wy m 8 t' = 2 := by
  unfold sMove
  split
  · exact sMove1_8 (by rw [vset_ne (by omega)]; exact h)
  · exact h
theorem sMoves_8 {P V : AV} {LW : LWt} {wy : Int32} {t' : Nat} (h : V 8 t' = 2) (k : Nat) : sMoves P LW wy V k 8 t' = 2 := by
  induction k with
  | zero => exact h
  | succ k ih => unfold sMoves; exact sMove_8 ih
theorem sBurns_8 {V : AV} {t' : Nat} (h : V 8 t' = 2) (k : Nat) : sBurns V k 8 t' = 2 := by
  induction k with
  | zero => exact h
  | succ k ih =>
    unfold sBurns sBurn
    split
    · rename_i h1
      split
      · by_cases e : t' = k
        · subst e
          rw [ih] at h1
          exact absurd h1 (by decide)
        · rw [vset_ne (by omega)]; exact ih
      · exact ih
    · exact ih
theorem sPass_8 {P V : AV} {LW : LWt} {n T L t : Nat} {wy : Int32} (h : V 8 t = 2) : (sPass P LW n T L wy V).1 8 t = 2 := by
  have a : sMoves P LW wy (sSends P LW n T (sW1 P L wy V) 0 n).1 n 8 t = 2 := by
    apply sMoves_8
    rw [sSends_row (by decide) (by decide) (by decide), sW1_row (by decide) (by decide)]
    exact h
  rw [sPass_1, vset_row (by decide), sGrow_row (by decide)]
  unfold sW4
  split
  · exact sBurns_8 a T
  · exact a
/-! laws that are the same -/
theorem sDares_lw {P V : AV} {LW LW' : LWt} {m t : Nat} {x : Int32} (h : ∀ j, j < 3 → LW j = LW' j) : sDares P V LW m t x = sDares P V LW' m t x := by
  unfold sDares sLaw
  rw [h 0 (by decide)]
theorem sSends_lw {P V : AV} {LW LW' : LWt} {n T : Nat} {wi : Int32} (h : ∀ j, j < 3 → LW j = LW' j) (k : Nat) : sSends P LW n T V wi k = sSends P LW' n T V wi k := by
  induction k with
  | zero => rfl
  | succ k ih =>
    unfold sSends
    rw [ih]
    unfold sSend
    simp only [sDares_lw h]
theorem sMove_lw {P V : AV} {LW LW' : LWt} {wy : Int32} {m : Nat} (h : ∀ j, j < 3 → LW j = LW' j) : sMove P V LW wy m = sMove P V LW' wy m := by
  have e1 : ∀ U t, sHurt P U LW wy m t = sHurt P U LW' wy m t := fun U t => by
    unfold sHurt sLaw
    rw [h 2 (by decide)]
  have e2 : ∀ U t, sSave P U LW m t = sSave P U LW' m t := fun U t => by
    unfold sSave sLaw
    rw [h 1 (by decide)]
  unfold sMove sMove1
  simp only [e1, e2]
theorem sMoves_lw {P V : AV} {LW LW' : LWt} {wy : Int32} (h : ∀ j, j < 3 → LW j = LW' j) (k : Nat) : sMoves P LW wy V k = sMoves P LW' wy V k := by
  induction k with
  | zero => rfl
  | succ k ih => unfold sMoves; rw [ih, sMove_lw h]
theorem sPass_lw {P V : AV} {LW LW' : LWt} {n T L : Nat} {wy : Int32} (h : ∀ j, j < 3 → LW j = LW' j) : sPass P LW n T L wy V = sPass P LW' n T L wy V := by
  unfold sPass
  simp only [sSends_lw h, sMoves_lw h]
/-! STEPS -/
def qPass (q : PPt) (wy : Int32) (V : AV) : AV × Int32 := sPass q.2.2.2.1 q.2.2.2.2.1 q.1 q.2.1 q.2.2.1 wy V
def qRun (q : PPt) (wy : Int32) (V : AV) : Nat → AV
  | 0 => V
  | k + 1 => (qPass q wy (qRun q wy V k)).1
theorem qRun_wI {q : PPt} {V : AV} {wy : Int32} (hq : pI q) (h : wI q V) (k : Nat) : wI q (qRun q wy V k) := by
  induction k with
  | zero => exact h
  | succ k ih => exact sPass_wI hq ih
theorem qRun_8 {q : PPt} {V : AV} {wy : Int32} {t : Nat} (h : V 8 t = 2) (k : Nat) : qRun q wy V k 8 t = 2 := by
  induction k with
  | zero => exact h
  | succ k ih => exact sPass_8 ih
theorem FrW.pl {w p a : Nat} {M M' : zM} {i : Nat} (h : FrW w p M M') (hw : isW w) (ha : a < 55) : M'.1 a i = M.1 a i := h.1 a i (by have := isW_ge hw; omega)
/-- the class's STEP -/
theorem c_pass {M : zM} {w p : Nat} {q : PPt} {V : AV} {wy : Int32} (hw : isW w) (hr : M.2.2 w 0 = some p) (hP : cPl M p q) (hq : pI q) (hV : cV M q w V) (hI : wI q V) :
    ∃ M', gX8_pass w wy M = some M' ∧ FrW w p M M' ∧ cV M' q w (qPass q wy V).1 ∧ M'.1 w 15 = (qPass q wy V).2 := by
  obtain ⟨h1, h2, h3, h4⟩ := hP
  unfold cV at hV
  obtain ⟨M', g1, g2, g3, g4⟩ := s_pass (wy := wy) ⟨hw, hr, h1⟩ (by rw [h2]; exact hq.2.2.2.1) (by rw [hV]; exact hI.1.1) (by rw [hV]; exact hI.1.2.1.go)
  rw [h2, hV, sPass_lw h3] at g3 g4
  exact ⟨M', g1, g2, g3, g4⟩
theorem cPl.fr {M M' : zM} {w p : Nat} {q : PPt} (h : cPl M p q) (hw : isW w) (hf : FrW w p M M') : cPl M' p q :=
  h.mono (fun a i z1 z2 => hf.1 a i (by have := isW_ge hw; have := isPl_lt h.1.1; omega))
/-- the reference's STEP -/
theorem m_pass {M : zM} {f : Nat} {q : PPt} {V : AV} {wy by' : Int32} (hf : f < 23) (hP : mPl M q) (hq : pI q) (hw : wyOK M wy by') (hV : mV M q f V) (hh : vHd M f q.1) (hI : wI q V) :
    ∃ M', gX10_passes (nI f) by' M = some M' ∧ FrM f M M' ∧ mV M' q f (qPass q wy V).1 ∧ M'.1 98 53 = (qPass q wy V).2 := by
  obtain ⟨h1, h2, h3, h4⟩ := hP
  unfold mV at hV
  obtain ⟨M', g1, g2, g3, g4⟩ := r_pass h1 hf hw (by rw [h2]; exact hq.2.1) (by rw [h2]; exact hq.2.2.1) (by rw [h2]; exact hq.2.2.2.1) (by rw [h2, hV]; exact hI.1) hh
  rw [h2, hV, sPass_lw h3] at g3 g4
  exact ⟨M', g1, g2, g3, g4⟩
theorem mPl.fr {M M' : zM} {f : Nat} {q : PPt} (h : mPl M q) (hf : FrM f M M') : mPl M' q := h.mono (fun a i z1 z2 => hf.1 a i (MF_lo (by omega)))
