/-! ===== what a world is, without its cells ===== -/
abbrev AV : Type := Nat → Nat → Int32
def vdim (n T c k : Nat) : Bool := if c = 0 then decide (10 ≤ k ∧ k ≤ 14) else if c ≤ 7 then decide (k < n) else if c ≤ 9 then decide (k < T) else false
/-- the class's world: row 0 its numbers (10 step, 11 heat, 12 crowd, 13 refused, 14 number), rows 1 .. 7 by MEN, rows 8, 9 by THINGS; 0 beyond -/
def vC (n T : Nat) (M : zM) (w : Nat) : AV := fun c k => if vdim n T c k then M.1 (w + c) k else 0
def vset (V : AV) (c k : Nat) (x : Int32) : AV := fun c' k' => if c' = c ∧ k' = k then x else V c' k'
def pdim (n T L c k : Nat) : Bool := if c = 0 then decide (k = 0 ∨ k = 5 ∨ k = 10) else if c ≤ 4 then decide (k < n) else if c ≤ 8 then decide (k < T) else if c ≤ 11 then decide (k < L) else if c = 12 then decide (k < 5) else false
/-- what a TEXT has told, as the class has it: rows as the fields of Plan's arrays in their order -/
def pC (n T L : Nat) (M : zM) (p : Nat) : AV := fun c k => if pdim n T L c k then M.1 (p + c) k else 0
theorem vC_at {n T : Nat} {M : zM} {w c k : Nat} (h : vdim n T c k = true) : vC n T M w c k = M.1 (w + c) k := if_pos h
theorem pC_at {n T L : Nat} {M : zM} {p c k : Nat} (h : pdim n T L c k = true) : pC n T L M p c k = M.1 (p + c) k := if_pos h
def PlC (M : zM) (p n T L : Nat) : Prop := (zisPl p = true) ∧ (M.1 p 0 = nI n ∧ n ≤ 6) ∧ (M.1 p 5 = nI T ∧ T ≤ 8) ∧ (M.1 p 10 = nI L ∧ L ≤ 10) ∧ ∀ j, j < 3 → lawOK M p j
def WC (M : zM) (w p n T L : Nat) : Prop := isW w ∧ M.2.2 w 0 = some p ∧ PlC M p n T L
/-- only the world w changes, and the laws' scratch -/
def FrW (w p : Nat) (M M' : zM) : Prop := (∀ a i, ¬ (w ≤ a ∧ a ≤ w + 9) → M'.1 a i = M.1 a i) ∧ M'.2.2 = M.2.2 ∧ ∀ a, a ≠ p + 19 → a ≠ p + 20 → M'.2.1 a = M.2.1 a
theorem FrW.rf {w p : Nat} {M : zM} : FrW w p M M := ⟨fun _ _ _ => rfl, rfl, fun _ _ _ => rfl⟩
theorem FrW.tr {w p : Nat} {M M1 M2 : zM} (h : FrW w p M M1) (h2 : FrW w p M1 M2) : FrW w p M M2 := ⟨fun a i q => by rw [h2.1 a i q, h.1 a i q], by rw [h2.2.1, h.2.1], fun a q1 q2 => by rw [h2.2.2 a q1 q2, h.2.2 a q1 q2]⟩
theorem FrW.put {w p c k : Nat} {M : zM} {x : Int32} (hc : c ≤ 9) : FrW w p M (zI M (w + c) k x) := ⟨fun a i q => zI_of (by omega), rfl, fun _ _ _ => rfl⟩
theorem FrW.put0 {w p k : Nat} {M : zM} {x : Int32} : FrW w p M (zI M w k x) := FrW.put (c := 0) (by omega)
theorem isPl_lt {p : Nat} (h : zisPl p = true) : p ≤ 26 := by
  have := zisPl_of h
  unfold isPl at this
  omega
theorem isW_ge {w : Nat} (h : isW w) : 55 ≤ w := by
  unfold isW at h
  omega
theorem PlC.mono {M M' : zM} {p n T L : Nat} (h : PlC M p n T L) (he : ∀ a i, p ≤ a → a ≤ p + 20 → M'.1 a i = M.1 a i) : PlC M' p n T L := by
  obtain ⟨h1, h2, h3, h4, h5⟩ := h
  refine ⟨h1, ⟨by rw [he p 0 (by omega) (by omega)]; exact h2.1, h2.2⟩, ⟨by rw [he p 5 (by omega) (by omega)]; exact h3.1, h3.2⟩, ⟨by rw [he p 10 (by omega) (by omega)]; exact h4.1, h4.2⟩, fun j hj => ?_⟩
  have := h5 j hj
  unfold lawOK at this ⊢
  rw [he _ j (by omega) (by omega), he _ j (by omega) (by omega)]
  exact this
theorem WC.fr {M M' : zM} {w p n T L : Nat} (h : WC M w p n T L) (hf : FrW w p M M') : WC M' w p n T L := by
  obtain ⟨h1, h2, h3⟩ := h
  have a1 := isW_ge h1
  have a2 := isPl_lt h3.1
  exact ⟨h1, by rw [hf.2.1]; exact h2, h3.mono (fun a i q1 q2 => hf.1 a i (by omega))⟩
theorem pC_fr {M M' : zM} {w p n T L : Nat} (h : WC M w p n T L) (hf : FrW w p M M') : pC n T L M' p = pC n T L M p := by
  have a1 := isW_ge h.1
  have a2 := isPl_lt h.2.2.1
  funext c k
  unfold pC
  by_cases hd : pdim n T L c k = true
  · rw [if_pos hd, if_pos hd]
    apply hf.1
    have : c ≤ 12 := by
      unfold pdim at hd
      repeat' (split at hd)
      all_goals first | omega | cases hd
    omega
  · rw [if_neg hd, if_neg hd]
theorem lawC_fr {M M' : zM} {w p n T L : Nat} (h : WC M w p n T L) (hf : FrW w p M M') : lawC M' p = lawC M p := by
  have a1 := isW_ge h.1
  have a2 := isPl_lt h.2.2.1
  funext j
  unfold lawC
  have e : ∀ a i, p ≤ a → a ≤ p + 20 → M'.1 a i = M.1 a i := fun a i q1 q2 => hf.1 a i (by omega)
  rw [e _ j (by omega) (by omega), e _ j (by omega) (by omega)]
  congr 2
  funext
  congr 1
  funext k
  rw [e _ k (by omega) (by omega), e _ k (by omega) (by omega)]
theorem vC_put {n T c k : Nat} {M : zM} {w : Nat} {x : Int32} (hd : vdim n T c k = true) : vC n T (zI M (w + c) k x) w = vset (vC n T M w) c k x := by
  funext c' k'
  unfold vC vset
  by_cases he : c' = c ∧ k' = k
  · rw [if_pos he, he.1, he.2, if_pos hd, zI_at]
  · rw [if_neg he]
    dsimp only
    by_cases hd' : vdim n T c' k' = true
    · rw [if_pos hd', if_pos hd', zI_of (by omega)]
    · rw [if_neg hd', if_neg hd']
theorem vC_put15 {n T : Nat} {M : zM} {w : Nat} {x : Int32} : vC n T (zI M w 15 x) w = vC n T M w := by
  funext c k
  unfold vC
  by_cases hd : vdim n T c k = true
  · rw [if_pos hd, if_pos hd]
    apply zI_of
    intro z
    have : c = 0 := by omega
    rw [this, z.2] at hd
    simp [vdim] at hd
  · rw [if_neg hd, if_neg hd]
theorem vC_eq {n T : Nat} {M M' : zM} {w : Nat} (h : M'.1 = M.1) : vC n T M' w = vC n T M w := by
  funext c k
  unfold vC
  rw [h]
/-! what NAMES are -/
def oT (o : Option Nat) : Int32 := match o with
  | some t => nI t
  | none => -2
def sFacts (P V : AV) (m : Nat) (o : Option Nat) (more : Int32) : Nat → Int64 := fun i => match i with
  | 0 => (P 2 m).toInt64
  | 1 => (V 2 m).toInt64
  | 2 => (P 4 m).toInt64
  | 3 => (V 3 m + more).toInt64
  | 4 => (V 0 11).toInt64
  | 5 => (match o with
    | some t => (P 7 t).toInt64
    | none => 0)
  | _ => (V 0 10).toInt64
theorem cl0 : (0 : Int32).toNatClampNeg = 0 := rfl
theorem cl1 : (1 : Int32).toNatClampNeg = 1 := rfl
theorem cl2 : (2 : Int32).toNatClampNeg = 2 := rfl
theorem cl3 : (3 : Int32).toNatClampNeg = 3 := rfl
theorem cl4 : (4 : Int32).toNatClampNeg = 4 := rfl
theorem cl5 : (5 : Int32).toNatClampNeg = 5 := rfl
theorem cl6 : (6 : Int32).toNatClampNeg = 6 := rfl
theorem vd {n T c k : Nat} (hc : 1 ≤ c) (hc7 : c ≤ 7) (h : k < n) : vdim n T c k = true := by
  unfold vdim; rw [if_neg (by omega), if_pos hc7]; exact decide_eq_true h
theorem vdT {n T c k : Nat} (hc : 8 ≤ c) (hc7 : c ≤ 9) (h : k < T) : vdim n T c k = true := by
  unfold vdim; rw [if_neg (by omega), if_neg (by omega), if_pos hc7]; exact decide_eq_true h
theorem pdN {n T L c k : Nat} (hc : 1 ≤ c) (hc7 : c ≤ 4) (h : k < n) : pdim n T L c k = true := by
  unfold pdim; rw [if_neg (by omega), if_pos hc7]; exact decide_eq_true h
theorem pdT {n T L c k : Nat} (hc : 5 ≤ c) (hc7 : c ≤ 8) (h : k < T) : pdim n T L c k = true := by
  unfold pdim; rw [if_neg (by omega), if_neg (by omega), if_pos hc7]; exact decide_eq_true h
theorem pdL {n T L c k : Nat} (hc : 9 ≤ c) (hc7 : c ≤ 11) (h : k < L) : pdim n T L c k = true := by
  unfold pdim; rw [if_neg (by omega), if_neg (by omega), if_neg (by omega), if_pos hc7]; exact decide_eq_true h
theorem pdS {n T L k : Nat} (h : k < 5) : pdim n T L 12 k = true := by
  unfold pdim; rw [if_neg (by omega), if_neg (by omega), if_neg (by omega), if_neg (by omega), if_pos rfl]; exact decide_eq_true h
def FrL (p : Nat) (M M' : zM) : Prop := M'.1 = M.1 ∧ M'.2.2 = M.2.2 ∧ ∀ a, a ≠ p + 19 → a ≠ p + 20 → M'.2.1 a = M.2.1 a
theorem FrL.W {w p : Nat} {M M' : zM} (h : FrL p M M') : FrW w p M M' := ⟨fun a i _ => by rw [h.1], h.2.1, h.2.2⟩
set_option maxHeartbeats 1000000 in
theorem s_setFacts {M : zM} {w p n T L m : Nat} {o : Option Nat} {more : Int32} (hW : WC M w p n T L) (hm : m < n) (ho : ∀ t, o = some t → t < T) :
    ∃ M', gX8_setFacts w (nI m) (oT o) more M = some M' ∧ FrL p M M' ∧ (∀ a, a ≠ p + 19 → M'.2.1 a = M.2.1 a) ∧ ∀ i, i < 7 → M'.2.1 (p + 19) i = sFacts (pC n T L M p) (vC n T M w) m o more i := by
  obtain ⟨h1, h2, hp, hn, hT, hL, hl⟩ := hW
  have hm6 : m < 6 := by omega
  have e1 : pC n T L M p 2 m = M.1 (p + 2) m := pC_at (pdN (by omega) (by omega) hm)
  have e2 : pC n T L M p 4 m = M.1 (p + 4) m := pC_at (pdN (by omega) (by omega) hm)
  have e3 : vC n T M w 2 m = M.1 (w + 2) m := vC_at (vd (by omega) (by omega) hm)
  have e4 : vC n T M w 3 m = M.1 (w + 3) m := vC_at (vd (by omega) (by omega) hm)
  have e5 : vC n T M w 0 11 = M.1 w 11 := vC_at rfl
  have e6 : vC n T M w 0 10 = M.1 w 10 := vC_at rfl
  -- the end, with the depth y
  have fin : ∀ (y : Int64) (M0 : zM), M0.1 = M.1 → M0.2.2 = M.2.2 → (∀ a, a ≠ p + 19 → M0.2.1 a = M.2.1 a) → (∀ i, i < 5 → M0.2.1 (p + 19) i = sFacts (pC n T L M p) (vC n T M w) m o more i) → y = sFacts (pC n T L M p) (vC n T M w) m o more 5 → ∃ M', gX8_setFacts_J111 w p p 5 y M0 = some M' ∧ FrL p M M' ∧ (∀ a, a ≠ p + 19 → M'.2.1 a = M.2.1 a) ∧ ∀ i, i < 7 → M'.2.1 (p + 19) i = sFacts (pC n T L M p) (vC n T M w) m o more i := by
    intro y M0 q1 q2 q3 q4 hy
    unfold gX8_setFacts_J111
    rw [zg_true (by decide), zlet_eq, zlet_eq, cl5, cl6, zJ_1, q1]
    refine ⟨_, rfl, ⟨q1, q2, fun a ha1 ha2 => ?_⟩, fun a ha => ?_, fun i hi => ?_⟩
    · rw [zJ_row_ne ha1, zJ_row_ne ha1, q3 a ha1]
    · rw [zJ_row_ne ha, zJ_row_ne ha, q3 a ha]
    · by_cases i6 : i = 6
      · subst i6; rw [zJ_at]; show _ = (vC n T M w 0 10).toInt64; rw [e6]
      · rw [zJ_of (by omega)]
        by_cases i5 : i = 5
        · subst i5; rw [zJ_at, hy]
        · rw [zJ_of (by omega)]; exact q4 i (by omega)
  unfold gX8_setFacts
  rw [if_neg (nI_pos (by omega)), nI_lit6, if_pos (nI_lt hm6 (by omega)), zgP_some h2 hp, zgP_some h2 hp, zg_true (zok_nI hm6 (by omega)), nI_cl (by omega), zlet_eq, zg_true (zok_nI hm6 (by omega)), zlet_eq, zgP_some (by exact h2) hp, zg_true (zok_nI hm6 (by omega)), zlet_eq, zg_true (zok_nI hm6 (by omega)), zlet_eq, zlet_eq]
  simp only [zJ_1, cl0, cl1, cl2, cl3, cl4]
  have hfive : ∀ i, i < 5 → (zJ (zJ (zJ (zJ (zJ M (p + 19) 0 (M.1 (p + 2) m).toInt64) (p + 19) 1 (M.1 (w + 2) m).toInt64) (p + 19) 2 (M.1 (p + 4) m).toInt64) (p + 19) 3 (M.1 (w + 3) m + more).toInt64) (p + 19) 4 (M.1 w 11).toInt64).2.1 (p + 19) i = sFacts (pC n T L M p) (vC n T M w) m o more i := by
    intro i hi
    match i, hi with
    | 0, _ => rw [zJ_of (by omega), zJ_of (by omega), zJ_of (by omega), zJ_of (by omega), zJ_at]; show _ = (pC n T L M p 2 m).toInt64; rw [e1]
    | 1, _ => rw [zJ_of (by omega), zJ_of (by omega), zJ_of (by omega), zJ_at]; show _ = (vC n T M w 2 m).toInt64; rw [e3]
    | 2, _ => rw [zJ_of (by omega), zJ_of (by omega), zJ_at]; show _ = (pC n T L M p 4 m).toInt64; rw [e2]
    | 3, _ => rw [zJ_of (by omega), zJ_at]; show _ = (vC n T M w 3 m + more).toInt64; rw [e4]
    | 4, _ => rw [zJ_at]; show _ = (vC n T M w 0 11).toInt64; rw [e5]
  have hrow : ∀ a, a ≠ p + 19 → (zJ (zJ (zJ (zJ (zJ M (p + 19) 0 (M.1 (p + 2) m).toInt64) (p + 19) 1 (M.1 (w + 2) m).toInt64) (p + 19) 2 (M.1 (p + 4) m).toInt64) (p + 19) 3 (M.1 (w + 3) m + more).toInt64) (p + 19) 4 (M.1 w 11).toInt64).2.1 a = M.2.1 a := fun a ha => by
    rw [zJ_row_ne ha, zJ_row_ne ha, zJ_row_ne ha, zJ_row_ne ha, zJ_row_ne ha]
  cases o with
  | none =>
    rw [if_pos (show oT none < 0 by decide)]
    unfold gX8_setFacts_J110
    exact fin 0 _ rfl rfl hrow hfive rfl
  | some t =>
    have ht := ho t rfl
    have ht8 : t < 8 := by omega
    show ∃ M', (if nI t < 0 then _ else _) = _ ∧ _
    rw [if_neg (nI_pos (by omega)), nI_lit8]
    show ∃ M', (if nI 8 ≤ nI t then _ else _) = _ ∧ _
    rw [if_neg (nI_ge ht8 (by omega)), zgP_some (by exact h2) hp]
    show ∃ M', zg (zok (nI t) 8) (gX8_setFacts_J111 w p p 5 (M.1 (p + 7) (nI t).toNatClampNeg).toInt64 _) = _ ∧ _
    rw [zg_true (zok_nI ht8 (by omega)), nI_cl (by omega)]
    exact fin _ _ rfl rfl hrow hfive (by show _ = (pC n T L M p 7 t).toInt64; rw [pC_at (pdT (by omega) (by omega) ht)])
