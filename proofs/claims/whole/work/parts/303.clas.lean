/-! ===== the class reads an E: one TOKEN, over its memory ===== -/
def cTk (M : zM) (N z : Nat) (b : Nat → Nat) : Prop := M.1 50 3 = nI (z + 1) ∧ ∀ j, j ≤ z → M.1 51 j = nI (tk N b j) ∧ M.1 52 j = nI (pl N b j) ∧ M.1 53 j = tv N b j
def cAtt (M : zM) (N : Nat) (b : Nat → Nat) (j : Nat) : Prop := M.1 47 4 = nI (j + 1) ∧ M.1 47 5 = nI (tk N b j) ∧ M.1 47 6 = nI (pl N b j) ∧ M.1 47 7 = tv N b j
def FA (M M' : zM) : Prop := M'.2 = M.2 ∧ ∀ a i, ¬ (a = 47 ∧ 4 ≤ i ∧ i ≤ 7) → M'.1 a i = M.1 a i
theorem cTk.mono {M M' : zM} {N z : Nat} {b : Nat → Nat} (h : cTk M N z b) (he : ∀ a i, 50 ≤ a → a ≤ 53 → M'.1 a i = M.1 a i) : cTk M' N z b :=
  ⟨by rw [he _ _ (by omega) (by omega)]; exact h.1, fun j hj => by rw [he _ _ (by omega) (by omega), he _ _ (by omega) (by omega), he _ _ (by omega) (by omega)]; exact h.2 j hj⟩
theorem cAtt.mono {M M' : zM} {N j : Nat} {b : Nat → Nat} (h : cAtt M N b j) (he : ∀ i, 4 ≤ i → i ≤ 7 → M'.1 47 i = M.1 47 i) : cAtt M' N b j :=
  ⟨by rw [he _ (by omega) (by omega)]; exact h.1, by rw [he _ (by omega) (by omega)]; exact h.2.1, by rw [he _ (by omega) (by omega)]; exact h.2.2.1, by rw [he _ (by omega) (by omega)]; exact h.2.2.2⟩
theorem c_adv {M : zM} {N z j : Nat} {b : Nat → Nat} (hz : z ≤ 700) (h : cTk M N z b) (h4 : M.1 47 4 = nI j) (hj : j ≤ z) : ∃ M', gX5_advance M = some M' ∧ cAtt M' N b j ∧ FA M M' := by
  obtain ⟨g1, g2, g3⟩ := h.2 j hj
  unfold gX5_advance
  rw [h4, if_neg (nI_pos (by omega)), h.1, if_neg (nI_ge (by omega) (by omega)), zg_true (zok_nI (show j < 701 by omega) (by omega)), zlet_eq, nI_cl (by omega)]
  rw [zI_of (by omega), h4, zg_true (zok_nI (show j < 701 by omega) (by omega)), zlet_eq, nI_cl (by omega)]
  rw [zI_of (by omega), zI_of (by omega), h4, zg_true (zok_nI (show j < 701 by omega) (by omega)), zlet_eq, nI_cl (by omega)]
  have e4 : ∀ x y w : Int32, (zI (zI (zI M 47 5 x) 47 6 y) 47 7 w).1 47 4 = nI j := fun x y w => by rw [zI_of (by omega), zI_of (by omega), zI_of (by omega), h4]
  rw [zlet_eq, zI_of (by omega), zI_of (by omega), zI_of (by omega), e4, nI_1]
  refine ⟨_, rfl, ⟨zI_at, ?_, ?_, ?_⟩, rfl, fun a i q => ?_⟩
  · rw [zI_of (by omega), zI_of (by omega), zI_of (by omega), zI_at]; exact g1
  · rw [zI_of (by omega), zI_of (by omega), zI_at]; exact g2
  · rw [zI_of (by omega), zI_at]; exact g3
  · rw [zI_of (by omega), zI_of (by omega), zI_of (by omega), zI_of (by omega)]
def cF (M : zM) (N : Nat) (b : Nat → Nat) (f j : Nat) : Prop := M.1 47 0 = nI f ∧ M.1 47 1 = nI (pl N b j)
theorem c_fails {M : zM} {N j : Nat} {b : Nat → Nat} (f : Nat) (h : cAtt M N b j) : ∃ M', gX5_fails (nI f) M = some (0, M') ∧ cF M' N b f j ∧ (M'.2 = M.2 ∧ ∀ a i, ¬ (a = 47 ∧ i ≤ 1) → M'.1 a i = M.1 a i) := by
  unfold gX5_fails
  rw [zlet_eq, zlet_eq]
  refine ⟨_, rfl, ⟨?_, ?_⟩, rfl, fun a i q => by rw [zI_of (by omega), zI_of (by omega)]⟩
  · rw [zI_of (by omega), zI_at]
  · rw [zI_at, zI_of (by omega)]; exact h.2.2.1
/-! what waits, what is told -/
def stkM (M : zM) (s : List (Nat × Nat)) : Prop := M.1 47 10 = nI s.length ∧ ∀ k, k < s.length → M.1 48 k = nI (s.getD (s.length - 1 - k) (0, 0)).1 ∧ M.1 49 k = nI (s.getD (s.length - 1 - k) (0, 0)).2
def ouM (M : zM) (p : Nat) (o : List (Int32 × Int32)) : Prop := M.1 (p + 14) 1 = nI o.length ∧ ∀ k, k < o.length → M.1 (p + 17) k = (o.getD k (0, 0)).1 ∧ M.1 (p + 18) k = (o.getD k (0, 0)).2
theorem stkM.mono {M M' : zM} {s : List (Nat × Nat)} (h : stkM M s) (h0 : M'.1 47 10 = M.1 47 10) (h1 : ∀ i, M'.1 48 i = M.1 48 i) (h2 : ∀ i, M'.1 49 i = M.1 49 i) : stkM M' s :=
  ⟨by rw [h0]; exact h.1, fun k hk => by rw [h1, h2]; exact h.2 k hk⟩
theorem ouM.mono {M M' : zM} {p : Nat} {o : List (Int32 × Int32)} (h : ouM M p o) (h0 : M'.1 (p + 14) 1 = M.1 (p + 14) 1) (h1 : ∀ i, M'.1 (p + 17) i = M.1 (p + 17) i) (h2 : ∀ i, M'.1 (p + 18) i = M.1 (p + 18) i) : ouM M' p o :=
  ⟨by rw [h0]; exact h.1, fun k hk => by rw [h1, h2]; exact h.2 k hk⟩
theorem getD_c {q : Nat × Nat} {s : List (Nat × Nat)} {k : Nat} (h : k < s.length) : (q :: s).getD ((q :: s).length - 1 - k) (0, 0) = s.getD (s.length - 1 - k) (0, 0) := by
  rw [List.length_cons, show s.length + 1 - 1 - k = (s.length - 1 - k) + 1 by omega]
  rfl
theorem getD_t {q : Nat × Nat} {s : List (Nat × Nat)} : (q :: s).getD ((q :: s).length - 1 - s.length) (0, 0) = q := by
  rw [List.length_cons, show s.length + 1 - 1 - s.length = 0 by omega]
  rfl
theorem stkM_pop {M : zM} {q : Nat × Nat} {s : List (Nat × Nat)} (h : stkM M (q :: s)) : stkM (zI M 47 10 (nI s.length)) s ∧ M.1 48 s.length = nI q.1 ∧ M.1 49 s.length = nI q.2 := by
  have t := h.2 s.length (by rw [List.length_cons]; omega)
  rw [getD_t] at t
  refine ⟨⟨zI_at, fun k hk => ?_⟩, t.1, t.2⟩
  have a := h.2 k (by rw [List.length_cons]; omega)
  rw [getD_c hk] at a
  rw [zI_of (by omega), zI_of (by omega)]
  exact a
theorem c_tell {M : zM} {p : Nat} {o : List (Int32 × Int32)} {x y : Int32} (hp : p ≤ 26) (h : ouM M p o) (hl : o.length < 64) : ∃ M', gX1_tell p x y M = some M' ∧ ouM M' p (o ++ [(x, y)]) ∧ (M'.2 = M.2 ∧ ∀ a i, ¬ ((a = p + 14 ∧ i = 1) ∨ a = p + 17 ∨ a = p + 18) → M'.1 a i = M.1 a i) := by
  unfold gX1_tell
  rw [h.1, if_neg (nI_pos (by omega)), nI_lit64, if_neg (nI_ge hl (by omega)), zg_true (zok_nI hl (by omega)), zlet_eq, nI_cl (by omega), zI_of (by omega), h.1, zg_true (zok_nI hl (by omega)), zlet_eq, nI_cl (by omega), zlet_eq, zI_of (by omega), zI_of (by omega), h.1, nI_1]
  refine ⟨_, rfl, ⟨?_, fun k hk => ?_⟩, rfl, fun a i q => by rw [zI_of (by omega), zI_of (by omega), zI_of (by omega)]⟩
  · rw [zI_at, List.length_append]; rfl
  · rw [List.length_append] at hk
    have hk2 : k < o.length + 1 := hk
    by_cases e : k = o.length
    · subst e
      rw [zI_of (by omega), zI_of (by omega), zI_at, zI_of (by omega), zI_at, getD_app]
      exact ⟨rfl, rfl⟩
    · rw [zI_of (by omega), zI_of (by omega), zI_of (by omega), zI_of (by omega), zI_of (by omega), zI_of (by omega), getD_app_lt (by omega)]
      exact h.2 k (by omega)
theorem c_putW {M : zM} {s : List (Nat × Nat)} {K l : Nat} (h : stkM M s) (hl : s.length < 72) (h5 : M.1 47 5 = nI K) : ∃ M', gX5_putWaiting (nI l) M = some M' ∧ stkM M' ((K, l) :: s) ∧ (M'.2 = M.2 ∧ ∀ a i, ¬ ((a = 47 ∧ i = 10) ∨ a = 48 ∨ a = 49) → M'.1 a i = M.1 a i) := by
  unfold gX5_putWaiting
  rw [h.1, if_neg (nI_pos (by omega)), show (72 : Int32) = nI 72 by decide, if_neg (nI_ge hl (by omega)), zg_true (zok_nI hl (by omega)), zlet_eq, nI_cl (by omega), zI_of (by omega), h.1, zg_true (zok_nI hl (by omega)), zlet_eq, nI_cl (by omega), zlet_eq, zI_of (by omega), zI_of (by omega), h.1, nI_1]
  refine ⟨_, rfl, ⟨?_, fun k hk => ?_⟩, rfl, fun a i q => by rw [zI_of (by omega), zI_of (by omega), zI_of (by omega)]⟩
  · rw [zI_at, List.length_cons]
  · rw [List.length_cons] at hk
    by_cases e : k = s.length
    · subst e
      rw [getD_t, zI_of (by omega), zI_of (by omega), zI_at, zI_of (by omega), zI_at]
      exact ⟨h5, rfl⟩
    · rw [getD_c (by omega), zI_of (by omega), zI_of (by omega), zI_of (by omega), zI_of (by omega), zI_of (by omega), zI_of (by omega)]
      exact h.2 k (by omega)
def nzS : List (Nat × Nat) → Nat
  | [] => 0
  | q :: s => nzS s + (if q.2 = 0 then 0 else 1)
def zeS : List (Nat × Nat) → Nat
  | [] => 0
  | q :: s => zeS s + (if q.2 = 0 then 1 else 0)
theorem len_S (s : List (Nat × Nat)) : s.length = nzS s + zeS s := by
  induction s with
  | nil => rfl
  | cons q s ih =>
    rw [List.length_cons]
    unfold nzS zeS
    split <;> omega
theorem rl_cnt {l : Nat} (hl : 1 ≤ l) (s : List (Nat × Nat)) : nzS (rlD l s) + (rlT l s).length = nzS s ∧ zeS (rlD l s) = zeS s := by
  induction s with
  | nil => exact ⟨rfl, rfl⟩
  | cons q s ih =>
    have e1 : rlD l (q :: s) = if l ≤ q.2 then rlD l s else q :: s := rfl
    have e2 : rlT l (q :: s) = if l ≤ q.2 then q :: rlT l s else [] := rfl
    have e3 : nzS (q :: s) = nzS s + (if q.2 = 0 then 0 else 1) := rfl
    have e4 : zeS (q :: s) = zeS s + (if q.2 = 0 then 1 else 0) := rfl
    rw [e1, e2]
    by_cases w : l ≤ q.2
    · rw [if_pos w, if_pos w, e3, e4, if_neg (by omega), if_neg (by omega), List.length_cons]
      omega
    · rw [if_neg w, if_neg w]
      exact ⟨rfl, rfl⟩
theorem rlD_mem {l : Nat} {s : List (Nat × Nat)} {q : Nat × Nat} (h : q ∈ rlD l s) : q ∈ s := by
  induction s with
  | nil => exact h
  | cons x s ih =>
    have e1 : rlD l (x :: s) = if l ≤ x.2 then rlD l s else x :: s := rfl
    rw [e1] at h
    by_cases w : l ≤ x.2
    · rw [if_pos w] at h; exact List.mem_cons_of_mem _ (ih h)
    · rw [if_neg w] at h; exact h
def FRl (p : Nat) (M M' : zM) : Prop := M'.2 = M.2 ∧ ∀ a i, ¬ ((a = 47 ∧ i = 10) ∨ (a = p + 14 ∧ i = 1) ∨ a = p + 17 ∨ a = p + 18) → M'.1 a i = M.1 a i
theorem c_relF {p l : Nat} (hp : p ≤ 26) (hpl : zisPl p = true) (hl : 1 ≤ l) (hl7 : l ≤ 7) : ∀ (s : List (Nat × Nat)) (n : Nat) (o : List (Int32 × Int32)) (M : zM), s.length < n → s.length < 73 → (∀ q ∈ s, q.2 ≤ 6) → o.length + nzS s ≤ 64 → M.2.2 47 3 = some p → stkM M s → ouM M p o → ∃ M', zfix n (gX5_release_L0 (nI l)) M = some M' ∧ stkM M' (rlD l s) ∧ ouM M' p (o ++ rlK (rlT l s)) ∧ FRl p M M' := by
  intro s
  induction s with
  | nil =>
    intro n o M hn h72 h6 h64 hr hs ho
    obtain ⟨n, rfl⟩ : ∃ m, n = m + 1 := ⟨n - 1, by omega⟩
    rw [zfix_succ]
    unfold gX5_release_L0
    rw [hs.1, if_pos (by decide)]
    refine ⟨M, rfl, hs, ?_, rfl, fun _ _ _ => rfl⟩
    show ouM M p (o ++ [])
    rw [List.append_nil]
    exact ho
  | cons q s ih =>
    intro n o M hn h72 h6 h64 hr hs ho
    rw [List.length_cons] at hn h72
    obtain ⟨n, rfl⟩ : ∃ m, n = m + 1 := ⟨n - 1, by omega⟩
    obtain ⟨hp1, hp2, hp3⟩ := stkM_pop hs
    have hq6 := h6 q List.mem_cons_self
    have e1 : rlD l (q :: s) = if l ≤ q.2 then rlD l s else q :: s := rfl
    have e2 : rlT l (q :: s) = if l ≤ q.2 then q :: rlT l s else [] := rfl
    have e3 : nzS (q :: s) = nzS s + (if q.2 = 0 then 0 else 1) := rfl
    rw [zfix_succ]
    unfold gX5_release_L0
    rw [hs.1, List.length_cons, if_neg (show ¬ nI (s.length + 1) ≤ 0 from nI_ge (a := 0) (by omega) (by omega)), nI_dec, zg_true (zok_nI (show s.length < 72 by omega) (by omega)), nI_cl (by omega), hp3]
    by_cases w : l ≤ q.2
    · rw [if_neg (fun z => by rw [nI_lt_iff (by omega) (by omega)] at z; omega), zlet_eq, zgP_some (show (zI M 47 10 (nI s.length)).2.2 47 3 = some p from hr) hpl, zI_at, zg_true (zok_nI (show s.length < 72 by omega) (by omega)), nI_cl (by omega), zI_of (by omega), hp2]
      rw [e3, if_neg (by omega)] at h64
      obtain ⟨M2, g1, g2, g3⟩ := c_tell (x := nI q.1) (y := 0) hp (ho.mono (M' := zI M 47 10 (nI s.length)) (zI_of (by omega)) (fun i => zI_of (by omega)) (fun i => zI_of (by omega))) (by omega)
      rw [zcV_some g1]
      have hs2 : stkM M2 s := hp1.mono (g3.2 _ _ (by omega)) (fun i => g3.2 _ _ (by omega)) (fun i => g3.2 _ _ (by omega))
      obtain ⟨M3, k1, k2, k3, k4⟩ := ih n (o ++ [(nI q.1, 0)]) M2 (by omega) (by omega) (fun x hx => h6 x (List.mem_cons_of_mem _ hx)) (by rw [List.length_append]; show o.length + 1 + nzS s ≤ 64; omega) (by rw [g3.1]; exact hr) hs2 g2
      refine ⟨M3, k1, ?_, ?_, k4.1.trans g3.1, fun a i z => ?_⟩
      · rw [e1, if_pos w]; exact k2
      · rw [e2, if_pos w]
        rw [List.append_assoc] at k3
        exact k3
      · rw [k4.2 a i z, g3.2 a i (by omega), zI_of (by omega)]
    · rw [if_pos (by rw [nI_lt_iff (by omega) (by omega)]; omega)]
      refine ⟨M, rfl, ?_, ?_, rfl, fun _ _ _ => rfl⟩
      · rw [e1, if_neg w]; exact hs
      · rw [e2, if_neg w]
        show ouM M p (o ++ [])
        rw [List.append_nil]
        exact ho
theorem c_release {p l : Nat} {s : List (Nat × Nat)} {o : List (Int32 × Int32)} {M : zM} (hpl : zisPl p = true) (hl : 1 ≤ l) (hl7 : l ≤ 7) (h72 : s.length < 73) (h6 : ∀ q ∈ s, q.2 ≤ 6) (h64 : o.length + nzS s ≤ 64) (hr : M.2.2 47 3 = some p) (hs : stkM M s) (ho : ouM M p o) : ∃ M', gX5_release (nI l) M = some M' ∧ stkM M' (rlD l s) ∧ ouM M' p (o ++ rlK (rlT l s)) ∧ FRl p M M' :=
  c_relF (isPl_lt hpl) hpl hl hl7 s zFu o M (by unfold zFu; omega) h72 h6 h64 hr hs ho
theorem levelOf_all : ∀ K : Fin 39, gX5_levelOf (nI K.val) cbM = some (nI (lev K.val)) := by decide +kernel
theorem c_level {K : Nat} {M : zM} (h : K ≤ 38) : gX5_levelOf (nI K) M = some (nI (lev K)) := levelOf_all ⟨K, by omega⟩
/-- all of the class's state while it reads an E -/
def ci : CS → Prop
  | (s, o, kn, op, _, _) => o.length + nzS s = kn ∧ kn ≤ 64 ∧ zeS s = op ∧ op ≤ 8 ∧ ∀ q ∈ s, q.2 ≤ 6
def cMs (M : zM) (p : Nat) : CS → Prop
  | (s, o, kn, op, due, pn) => stkM M s ∧ ouM M p o ∧ M.1 (p + 14) 0 = nI kn ∧ M.1 47 11 = nI op ∧ M.1 47 12 = b2i due ∧ M.1 47 13 = b2i pn
def cEM (M : zM) (p N z : Nat) (b : Nat → Nat) (i : Nat) (c : CS) : Prop := (zisPl p = true ∧ M.2.2 47 3 = some p) ∧ cTk M N z b ∧ M.1 47 4 = nI i ∧ cMs M p c ∧ ci c
/-- what reading an E changes -/
def FL (p : Nat) (M M' : zM) : Prop := M'.2 = M.2 ∧ ∀ a i, ¬ ((a = 47 ∧ 4 ≤ i) ∨ a = 48 ∨ a = 49 ∨ (a = p + 14) ∨ a = p + 17 ∨ a = p + 18) → M'.1 a i = M.1 a i
def FLf (p : Nat) (M M' : zM) : Prop := M'.2 = M.2 ∧ ∀ a i, ¬ ((a = 47 ∧ i ≠ 2 ∧ i ≠ 3) ∨ a = 48 ∨ a = 49 ∨ (a = p + 14) ∨ a = p + 17 ∨ a = p + 18) → M'.1 a i = M.1 a i
theorem FL.trf {p : Nat} {M M1 M2 : zM} (h : FL p M M1) (h2 : FLf p M1 M2) : FLf p M M2 := ⟨h2.1.trans h.1, fun a i q => (h2.2 a i q).trans (h.2 a i (by omega))⟩
theorem FL.rf {p : Nat} {M : zM} : FL p M M := ⟨rfl, fun _ _ _ => rfl⟩
theorem FL.tr {p : Nat} {M M1 M2 : zM} (h : FL p M M1) (h2 : FL p M1 M2) : FL p M M2 := ⟨h2.1.trans h.1, fun a i q => (h2.2 a i q).trans (h.2 a i q)⟩
theorem FA.L {p : Nat} {M M' : zM} (h : FA M M') : FL p M M' := ⟨h.1, fun a i q => h.2 a i (fun w => q (by omega))⟩
theorem FRl.L {p : Nat} {M M' : zM} (h : FRl p M M') : FL p M M' := ⟨h.1, fun a i q => h.2 a i (fun w => q (by omega))⟩
theorem FL.put {p a i : Nat} {M : zM} {x : Int32} (h : (a = 47 ∧ 4 ≤ i) ∨ a = 48 ∨ a = 49 ∨ (a = p + 14) ∨ a = p + 17 ∨ a = p + 18) : FL p M (zI M a i x) := ⟨rfl, fun c j q => zI_of (fun w => q (by rw [w.1, w.2]; exact h))⟩
theorem cl_ne {K k : Nat} (hK : K ≤ 38) (hk : k < 100) (h : K ≠ k) : ¬ nI K = nI k := by rw [nI_eqs (by omega) (by omega)]; exact h
