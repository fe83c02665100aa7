/-! ===== the reference's worlds, in the same words ===== -/
def gC (x : Int32) : Int32 := if x = -1 then -2 else if x = -2 then -1 else x
def ma (f c k : Nat) : Nat × Nat := match c with
  | 0 => (match k with
    | 10 => (118, f)
    | 11 => (120, f)
    | 12 => (121, f)
    | 13 => (122, f)
    | _ => (119, f))
  | 1 => (129, 6 * f + k)
  | 2 => (123, 6 * f + k)
  | 3 => (124, 6 * f + k)
  | 4 => (125, 6 * f + k)
  | 5 => (126, 6 * f + k)
  | 6 => (127, 6 * f + k)
  | 7 => (128, 6 * f + k)
  | 8 => (130, 8 * f + k)
  | _ => (131, 8 * f + k)
def vRd (M : zM) (f c k : Nat) : Int32 := if c = 5 then gC (M.1 (ma f c k).1 (ma f c k).2) else if c = 7 ∧ M.1 98 51 = 2 ∧ nI k = M.1 98 52 then 1 else M.1 (ma f c k).1 (ma f c k).2
def vM (n T : Nat) (M : zM) (f : Nat) : AV := fun c k => if vdim n T c k then vRd M f c k else 0
def pa (c k : Nat) : Nat × Nat := match c with
  | 0 => (match k with
    | 0 => (100, 0)
    | 5 => (100, 1)
    | _ => (100, 2))
  | 1 => (101, k)
  | 2 => (102, k)
  | 3 => (103, k)
  | 4 => (104, k)
  | 5 => (105, k)
  | 6 => (106, k)
  | 7 => (107, k)
  | 8 => (108, k)
  | 9 => (109, k)
  | 10 => (110, k)
  | 11 => (111, k)
  | _ => (100, 3 + k)
def pM (n T L : Nat) (M : zM) : AV := fun c k => if pdim n T L c k then M.1 (pa c k).1 (pa c k).2 else 0
theorem vM_at {n T : Nat} {M : zM} {f c k : Nat} (h : vdim n T c k = true) : vM n T M f c k = vRd M f c k := if_pos h
theorem pM_at {n T L : Nat} {M : zM} {c k : Nat} (h : pdim n T L c k = true) : pM n T L M c k = M.1 (pa c k).1 (pa c k).2 := if_pos h
/-- which numbers a STEP of the fire f may change -/
def MF (f a i : Nat) : Prop := (a = 98 ∧ (i = 34 ∨ i = 53)) ∨ (118 ≤ a ∧ a ≤ 122 ∧ i = f) ∨ (123 ≤ a ∧ a ≤ 127 ∧ 6 * f ≤ i ∧ i < 6 * f + 6) ∨ (130 ≤ a ∧ a ≤ 130 ∧ 8 * f ≤ i ∧ i < 8 * f + 8)
def FrM (f : Nat) (M M' : zM) : Prop := (∀ a i, ¬ MF f a i → M'.1 a i = M.1 a i) ∧ M'.2.2 = M.2.2 ∧ ∀ a, a ≠ 116 → a ≠ 117 → M'.2.1 a = M.2.1 a
theorem FrM.rf {f : Nat} {M : zM} : FrM f M M := ⟨fun _ _ _ => rfl, rfl, fun _ _ _ => rfl⟩
theorem FrM.tr {f : Nat} {M M1 M2 : zM} (h : FrM f M M1) (h2 : FrM f M1 M2) : FrM f M M2 := ⟨fun a i q => by rw [h2.1 a i q, h.1 a i q], by rw [h2.2.1, h.2.1], fun a q1 q2 => by rw [h2.2.2 a q1 q2, h.2.2 a q1 q2]⟩
theorem FrM.put {f a i : Nat} {M : zM} {x : Int32} (h : MF f a i) : FrM f M (zI M a i x) := ⟨fun b j q => zI_of (fun z => q (by rw [z.1, z.2]; exact h)), rfl, fun _ _ _ => rfl⟩
/-- the reference's law j: none where there is none -/
def lawM (M : zM) (j : Nat) : Option (List (Int32 × Int32)) := if M.1 113 j ≤ M.1 112 j then none else some ((List.range' (M.1 112 j).toNatClampNeg ((M.1 113 j).toNatClampNeg - (M.1 112 j).toNatClampNeg)).map (fun k => cvK (M.1 114 k) (M.1 115 k)))
/-- how high the stack is behind a row of KNOTS -/
def htS : List (Int32 × Int32) → Nat → Nat
  | [], h => h
  | q :: c, h => if q.1 = 28 then htS c h else if q.1 < 26 then htS c (h + 1) else htS c (h - 1)
def lawOKM (M : zM) (j : Nat) : Prop := ∃ a e : Nat, M.1 112 j = nI a ∧ M.1 113 j = nI e ∧ a ≤ e ∧ e ≤ 64 ∧ (∀ k, a ≤ k → k < e → okK (M.1 114 k, M.1 115 k)) ∧ (a < e → wfS ((List.range' a (e - a)).map (fun k => cvK (M.1 114 k) (M.1 115 k))) 0 ∧ htS ((List.range' a (e - a)).map (fun k => cvK (M.1 114 k) (M.1 115 k))) 0 = 1)
def MC (M : zM) (n T L : Nat) : Prop := (M.1 100 0 = nI n ∧ n ≤ 6) ∧ (M.1 100 1 = nI T ∧ T ≤ 8) ∧ (M.1 100 2 = nI L ∧ L ≤ 10) ∧ ∀ j, j < 3 → lawOKM M j
theorem MF_lo {f a i : Nat} (h : a < 98 ∨ (98 < a ∧ a < 118) ∨ 131 ≤ a) : ¬ MF f a i := by unfold MF; omega
theorem MF_98 {f i : Nat} (h : i ≠ 34) (h2 : i ≠ 53) : ¬ MF f 98 i := by unfold MF; omega
theorem lawM_fr {f : Nat} {M M' : zM} (hf : FrM f M M') : lawM M' = lawM M := by
  have e : ∀ a i, (98 < a ∧ a < 118) → M'.1 a i = M.1 a i := fun a i q => hf.1 a i (MF_lo (Or.inr (Or.inl q)))
  funext j
  unfold lawM
  rw [e 112 j (by omega), e 113 j (by omega)]
  have e2 : (fun k => cvK (M'.1 114 k) (M'.1 115 k)) = (fun k => cvK (M.1 114 k) (M.1 115 k)) := by
    funext k; rw [e 114 k (by omega), e 115 k (by omega)]
  rw [e2]
theorem MC.fr {f : Nat} {M M' : zM} {n T L : Nat} (h : MC M n T L) (hf : FrM f M M') : MC M' n T L := by
  have e : ∀ a i, (98 < a ∧ a < 118) → M'.1 a i = M.1 a i := fun a i q => hf.1 a i (MF_lo (Or.inr (Or.inl q)))
  have e2 : (fun k => cvK (M'.1 114 k) (M'.1 115 k)) = (fun k => cvK (M.1 114 k) (M.1 115 k)) := by
    funext k; rw [e 114 k (by omega), e 115 k (by omega)]
  obtain ⟨h1, h2, h3, h4⟩ := h
  refine ⟨⟨by rw [e 100 0 (by omega)]; exact h1.1, h1.2⟩, ⟨by rw [e 100 1 (by omega)]; exact h2.1, h2.2⟩, ⟨by rw [e 100 2 (by omega)]; exact h3.1, h3.2⟩, fun j hj => ?_⟩
  have := h4 j hj
  unfold lawOKM at this ⊢
  rw [e 112 j (by omega), e 113 j (by omega), e2]
  obtain ⟨a, b, g1, g2, g3, g4, g5, g6⟩ := this
  exact ⟨a, b, g1, g2, g3, g4, fun k q1 q2 => by rw [e 114 k (by omega), e 115 k (by omega)]; exact g5 k q1 q2, g6⟩
theorem pM_fr {f : Nat} {M M' : zM} {n T L : Nat} (hf : FrM f M M') : pM n T L M' = pM n T L M := by
  funext c k
  unfold pM
  by_cases hd : pdim n T L c k = true
  · rw [if_pos hd, if_pos hd]
    apply hf.1
    apply MF_lo
    right; left
    unfold pa
    repeat' split
    all_goals (constructor <;> simp)
  · rw [if_neg hd, if_neg hd]
theorem vdim_cases {n T c k : Nat} (h : vdim n T c k = true) : (c = 0 ∧ 10 ≤ k ∧ k ≤ 14) ∨ (1 ≤ c ∧ c ≤ 7 ∧ k < n) ∨ (8 ≤ c ∧ c ≤ 9 ∧ k < T) := by
  unfold vdim at h
  repeat' (split at h)
  · simp at h; omega
  · simp at h; omega
  · simp at h; omega
  · cases h
theorem ma_0 {f k : Nat} (h : 10 ≤ k) (h2 : k ≤ 14) : (ma f 0 k).2 = f ∧ (ma f 0 k).1 = (if k = 10 then 118 else if k = 11 then 120 else if k = 12 then 121 else if k = 13 then 122 else 119) := by
  rcases (show k = 10 ∨ k = 11 ∨ k = 12 ∨ k = 13 ∨ k = 14 by omega) with rfl | rfl | rfl | rfl | rfl <;> exact ⟨rfl, rfl⟩
theorem ma_m {f c k : Nat} (h : 1 ≤ c) (h2 : c ≤ 7) : (ma f c k).2 = 6 * f + k ∧ (ma f c k).1 = (if c = 1 then 129 else 121 + c) := by
  rcases (show c = 1 ∨ c = 2 ∨ c = 3 ∨ c = 4 ∨ c = 5 ∨ c = 6 ∨ c = 7 by omega) with rfl | rfl | rfl | rfl | rfl | rfl | rfl <;> exact ⟨rfl, rfl⟩
theorem ma_t {f c k : Nat} (h : 8 ≤ c) (h2 : c ≤ 9) : (ma f c k).2 = 8 * f + k ∧ (ma f c k).1 = 122 + c := by
  rcases (show c = 8 ∨ c = 9 by omega) with rfl | rfl <;> exact ⟨rfl, rfl⟩
theorem ma_inj {n T f c k c' k' : Nat} (h : vdim n T c k = true) (h' : vdim n T c' k' = true) (e1 : (ma f c k).1 = (ma f c' k').1) (e2 : (ma f c k).2 = (ma f c' k').2) : c = c' ∧ k = k' := by
  rcases vdim_cases h with ⟨rfl, a1, a2⟩ | ⟨a1, a2, a3⟩ | ⟨a1, a2, a3⟩ <;> rcases vdim_cases h' with ⟨rfl, b1, b2⟩ | ⟨b1, b2, b3⟩ | ⟨b1, b2, b3⟩
  · rw [(ma_0 a1 a2).2, (ma_0 b1 b2).2] at e1
    refine ⟨rfl, ?_⟩
    repeat' (split at e1)
    all_goals omega
  · rw [(ma_0 a1 a2).2, (ma_m b1 b2).2] at e1
    repeat' (split at e1)
    all_goals omega
  · rw [(ma_0 a1 a2).2, (ma_t b1 b2).2] at e1
    repeat' (split at e1)
    all_goals omega
  · rw [(ma_m a1 a2).2, (ma_0 b1 b2).2] at e1
    repeat' (split at e1)
    all_goals omega
  · rw [(ma_m a1 a2).2, (ma_m b1 b2).2] at e1
    rw [(ma_m a1 a2).1, (ma_m b1 b2).1] at e2
    repeat' (split at e1)
    all_goals omega
  · rw [(ma_m a1 a2).2, (ma_t b1 b2).2] at e1
    repeat' (split at e1)
    all_goals omega
  · rw [(ma_t a1 a2).2, (ma_0 b1 b2).2] at e1
    repeat' (split at e1)
    all_goals omega
  · rw [(ma_t a1 a2).2, (ma_m b1 b2).2] at e1
    repeat' (split at e1)
    all_goals omega
  · rw [(ma_t a1 a2).2, (ma_t b1 b2).2] at e1
    rw [(ma_t a1 a2).1, (ma_t b1 b2).1] at e2
    omega
theorem ma_ge {n T f c k : Nat} (h : vdim n T c k = true) : 118 ≤ (ma f c k).1 := by
  rcases vdim_cases h with ⟨rfl, a1, a2⟩ | ⟨a1, a2, a3⟩ | ⟨a1, a2, a3⟩
  · rw [(ma_0 a1 a2).2]; repeat' split
    all_goals omega
  · rw [(ma_m a1 a2).2]; repeat' split
    all_goals omega
  · rw [(ma_t a1 a2).2]; omega
theorem vM_put {n T c k : Nat} {M : zM} {f : Nat} {x : Int32} (hd : vdim n T c k = true) (h7 : c ≠ 7) : vM n T (zI M (ma f c k).1 (ma f c k).2 x) f = vset (vM n T M f) c k (if c = 5 then gC x else x) := by
  have hge := ma_ge (f := f) hd
  funext c' k'
  unfold vM vset
  by_cases he : c' = c ∧ k' = k
  · rw [if_pos he, he.1, he.2, if_pos hd]
    unfold vRd
    by_cases h5 : c = 5
    · rw [if_pos h5, if_pos h5, zI_at]
    · rw [if_neg h5, if_neg h5, if_neg (fun z => h7 z.1), zI_at]
  · rw [if_neg he]
    dsimp only
    by_cases hd' : vdim n T c' k' = true
    · rw [if_pos hd', if_pos hd']
      have hne : ¬ ((ma f c' k').1 = (ma f c k).1 ∧ (ma f c' k').2 = (ma f c k).2) := fun z => he (ma_inj hd' hd z.1 z.2)
      unfold vRd
      rw [zI_of hne, zI_of (by omega), zI_of (by omega)]
    · rw [if_neg hd', if_neg hd']
theorem vM_98 {n T : Nat} {M : zM} {f i : Nat} {x : Int32} (h : i ≠ 51) (h2 : i ≠ 52) : vM n T (zI M 98 i x) f = vM n T M f := by
  funext c k
  unfold vM
  by_cases hd : vdim n T c k = true
  · have hge := ma_ge (f := f) hd
    rw [if_pos hd, if_pos hd]
    unfold vRd
    rw [zI_of (by omega), zI_of (by omega), zI_of (by omega)]
  · rw [if_neg hd, if_neg hd]
theorem vM_eq {n T : Nat} {M M' : zM} {f : Nat} (h : ∀ a i, ¬ (a = 98 ∧ i = 34) → M'.1 a i = M.1 a i) : vM n T M' f = vM n T M f := by
  funext c k
  unfold vM
  by_cases hd : vdim n T c k = true
  · have hge := ma_ge (f := f) hd
    rw [if_pos hd, if_pos hd]
    unfold vRd
    rw [h _ _ (by omega), h 98 51 (by omega), h 98 52 (by omega)]
  · rw [if_neg hd, if_neg hd]
theorem nI_6 (f k : Nat) : (6 : Int32) * nI f + nI k = nI (6 * f + k) := by
  have : (6 : Int32) = nI 6 := by decide
  rw [this]
  have h2 : nI 6 * nI f = nI (6 * f) := by unfold nI; rw [Int32.ofNat_mul]
  rw [h2, nI_add]
theorem nI_8 (f k : Nat) : (8 : Int32) * nI f + nI k = nI (8 * f + k) := by
  have : (8 : Int32) = nI 8 := by decide
  rw [this]
  have h2 : nI 8 * nI f = nI (8 * f) := by unfold nI; rw [Int32.ofNat_mul]
  rw [h2, nI_add]
