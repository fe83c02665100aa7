/-! order -/
def rkP (V : AV) (A : Nat → Int32) (k : Nat) : AV := fun c i => if c = 1 ∧ i < k then A i else V c i
theorem rkP_0 {V : AV} {A : Nat → Int32} : rkP V A 0 = V := by
  funext c i
  unfold rkP
  rw [if_neg (by omega)]
theorem rkP_s {V : AV} {A : Nat → Int32} {k : Nat} : vset (rkP V A k) 1 k (A k) = rkP V A (k + 1) := by
  funext c i
  unfold vset rkP
  by_cases h : c = 1 ∧ i = k
  · rw [if_pos h, if_pos (by omega), h.2]
  · rw [if_neg h]
    by_cases g : c = 1 ∧ i < k
    · rw [if_pos g, if_pos (by omega)]
    · rw [if_neg g, if_neg (by omega)]
theorem rkP_congr {V : AV} {A A' : Nat → Int32} {k : Nat} (h : ∀ i, i < k → A i = A' i) : rkP V A k = rkP V A' k := by
  funext c i
  unfold rkP
  by_cases g : c = 1 ∧ i < k
  · rw [if_pos g, if_pos g, h i g.2]
  · rw [if_neg g, if_neg g]
theorem rkP_row {V : AV} {A : Nat → Int32} {k c : Nat} (h : c ≠ 1) : rkP V A k c = V c := by
  funext i
  unfold rkP
  rw [if_neg (fun w => h w.1)]
def rowOK (V : AV) (c : Nat) (A : Nat → Int32) : Prop := (∀ i, i < c → ∃ j, j < c ∧ A i = V 1 j) ∧ ∀ i j, i < c → j < c → A i = A j → i = j
theorem rkP_wI {q : PPt} {V : AV} {c : Nat} {A : Nat → Int32} (h : wI q V) (hc : c ≤ q.1) (hr : rowOK V c A) : wI q (rkP V A c) := by
  have e1 : ∀ i, i < c → rkP V A c 1 i = A i := fun i hi => if_pos ⟨rfl, hi⟩
  have e2 : ∀ i, c ≤ i → rkP V A c 1 i = V 1 i := fun i hi => if_neg (by omega)
  refine ⟨⟨?_, ?_, ?_⟩, ?_, ?_, ?_⟩
  · intro k hk
    by_cases g : k < c
    · rw [e1 k g]
      obtain ⟨j, hj, e⟩ := hr.1 k g
      rw [e]
      exact h.1.1 j (by omega)
    · rw [e2 k (by omega)]; exact h.1.1 k hk
  · have := h.1.2.1
    unfold vIn at this ⊢
    rw [rkP_row (by omega), rkP_row (by omega), rkP_row (by omega)]
    exact this
  · have := h.1.2.2
    unfold vRu at this ⊢
    rw [rkP_row (by omega)]
    exact this
  · have := h.2.1
    unfold vHb at this ⊢
    rw [rkP_row (by omega)]
    exact this
  · intro i j hi hj e
    by_cases gi : i < c
    · rw [e1 i gi] at e
      by_cases gj : j < c
      · rw [e1 j gj] at e; exact hr.2 i j gi gj e
      · rw [e2 j (by omega)] at e
        obtain ⟨l, hl, el⟩ := hr.1 i gi
        rw [el] at e
        have := h.2.2.1 l j (by omega) hj e
        omega
    · rw [e2 i (by omega)] at e
      by_cases gj : j < c
      · rw [e1 j gj] at e
        obtain ⟨l, hl, el⟩ := hr.1 j gj
        rw [el] at e
        have := h.2.2.1 i l hi (by omega) e
        omega
      · rw [e2 j (by omega)] at e; exact h.2.2.1 i j hi hj e
  · have := h.2.2.2
    unfold vGz at this ⊢
    rw [rkP_row (by omega), rkP_row (by omega)]
    exact this
def svN (q : PPt) (V : AV) : Nat → Nat
  | 0 => 0
  | t + 1 => if V 8 t = 2 then svN q V t + wt q t else svN q V t
theorem svN_s {q : PPt} {V : AV} {t : Nat} : svN q V (t + 1) = if V 8 t = 2 then svN q V t + wt q t else svN q V t := rfl
theorem svN_le {q : PPt} {V : AV} (hq : pI q) : ∀ t, t ≤ q.2.1 → svN q V t ≤ 99 * t := by
  intro t
  induction t with
  | zero => intro _; exact Nat.zero_le _
  | succ t ih =>
    intro h
    have a := ih (by omega)
    have b := (wt_le hq (show t < q.2.1 by omega)).1
    rw [svN_s]
    split <;> omega
theorem svN_mono {q : PPt} {V W : AV} (h : ∀ t, V 8 t = 2 → W 8 t = 2) : ∀ t, svN q V t ≤ svN q W t := by
  intro t
  induction t with
  | zero => exact Nat.le_refl _
  | succ t ih =>
    rw [svN_s, svN_s]
    by_cases e : V 8 t = 2
    · rw [if_pos e, if_pos (h t e)]; omega
    · rw [if_neg e]; split <;> omega
theorem sSaved_nI {q : PPt} {V : AV} (hq : pI q) : ∀ t, t ≤ q.2.1 → sSaved q.2.2.2.1 V t = nI (svN q V t) := by
  intro t
  induction t with
  | zero => intro _; exact nI_0.symm
  | succ t ih =>
    intro h
    rw [svN_s]
    show (if V 8 t = 2 then sSaved q.2.2.2.1 V t + q.2.2.2.1 6 t else sSaved q.2.2.2.1 V t) = _
    rw [ih (by omega)]
    by_cases e : V 8 t = 2
    · rw [if_pos e, if_pos e, (wt_le hq (show t < q.2.1 by omega)).2, nI_add]
    · rw [if_neg e, if_neg e]
theorem nI_sub {a b : Nat} (h : b ≤ a) : nI a - nI b = nI (a - b) := by
  have e : nI a = nI (a - b) + nI b := by rw [nI_add, show a - b + b = a by omega]
  rw [e, i32_addsub]
def itsA (q : PPt) (V : AV) (c : Nat) (A : Nat → Int32) : Nat := svN q (qRun q 0 (rkP V A c) 30) q.2.1 - svN q V q.2.1
theorem itsA_congr {q : PPt} {V : AV} {c : Nat} {A A' : Nat → Int32} (h : ∀ i, i < c → A i = A' i) : itsA q V c A = itsA q V c A' := by unfold itsA; rw [rkP_congr h]
theorem itsA_le {q : PPt} {V : AV} {c : Nat} {A : Nat → Int32} (hq : pI q) : itsA q V c A ≤ 792 := by
  have := svN_le (V := qRun q 0 (rkP V A c) 30) hq q.2.1 (Nat.le_refl _)
  have hT := hq.1.2.1
  unfold itsA
  omega
theorem its_eq {q : PPt} {V : AV} {c : Nat} {A : Nat → Int32} (hq : pI q) : sSaved q.2.2.2.1 (qRun q 0 (rkP V A c) 30) q.2.1 - sSaved q.2.2.2.1 V q.2.1 = nI (itsA q V c A) := by
  rw [sSaved_nI hq _ (Nat.le_refl _), sSaved_nI hq _ (Nat.le_refl _), nI_sub]
  · rfl
  · exact svN_mono (fun t e => qRun_8 (by rw [rkP_row (by omega)]; exact e) 30) _
/-- the class's worth of a row -/
theorem c_worth {M : zM} {q : PPt} {V : AV} {I : Option AV} {D : Nat × (Nat → AV)} {S : SSt} {B : Nat × (Nat → Int32)} {F : Int32 × Int32} {c : Nat} (hC : CR M q V I D S B F) (hM : MR M q V I D S B F) (hq : pI q) (hI : wI q V) (hc : c ≤ q.1) (hc4 : c ≤ 4) (hr : rowOK V c (M.1 2)) :
    ∃ M', gX9_worthOfRow (nI c) M = some (nI (itsA q V c (M.1 2)), M') ∧ CR M' q V I D S B F ∧ MR M' q V I D S B F ∧ M'.1 2 = M.1 2 ∧ M'.1 3 = M.1 3 := by
  obtain ⟨p0, c1, c2, c3, c4⟩ := hC
  have hC : CR M q V I D S B F := ⟨p0, c1, c2, c3, c4⟩
  obtain ⟨Mb, b1, b2, b3, b4, b5⟩ := s_becomes (M := M) (w := 65) (v := 55) (p := p0) (n := q.1) (T := q.2.1) (Or.inr (Or.inl rfl)) (Or.inl rfl) (by omega) c1.2.1 c2.1.1 hq.1.1 hq.1.2.1 (fun k hk => by rw [show vC q.1 q.2.1 M 55 = V from c3]; exact hI.2.1 k hk)
  obtain ⟨M3, p, b1', hC3, hM3, hT3⟩ := c_begin hC hM hq hI
  have eM : M3 = Mb := by rw [b1] at b1'; exact (Option.some.inj b1').symm
  subst eM
  have e2 : M3.1 2 = M.1 2 := b2 2 (by omega)
  have e3 : M3.1 3 = M.1 3 := b2 3 (by omega)
  unfold gX9_worthOfRow
  rw [zcV_some b1]
  have J44 : ∀ N, FrW 65 p M3 N → cT N p q (rkP V (M.1 2) c) → ∃ M', gX9_worthOfRow_J44 N = some (nI (itsA q V c (M.1 2)), M') ∧ CR M' q V I D S B F ∧ MR M' q V I D S B F ∧ M'.1 2 = M.1 2 ∧ M'.1 3 = M.1 3 := fun N hf hT => by
    have ok := cRn_ok (wy := 0) hT hq (rkP_wI hI hc hr)
    have fT := hf.tr (ok 30).1
    have hC5 := hC3.fr65 fT
    refine ⟨cRn 0 N 30, ?_, hC5, hM3.fr65 fT, ?_, ?_⟩
    · unfold gX9_worthOfRow_J44
      refine zfix_run (fun k => (nI k, cRn 0 N k)) 30 (by rw [nI_0]; rfl) (by unfold zFu; omega) ?_ ?_
      · intro k hk rc'
        unfold gX9_worthOfRow_L46
        dsimp only
        rw [show (30 : Int32) = nI 30 by decide, if_neg (nI_ge hk (by omega)), zcV_some (ok k).2.2, nI_1]
      · intro rc'
        unfold gX9_worthOfRow_L46
        dsimp only
        have hT30 := (ok 30).2.1
        obtain ⟨p5, d1, d2, d3, d4⟩ := hC5
        rw [show (30 : Int32) = nI 30 by decide, if_pos (nI_le (Nat.le_refl _) (by omega)), zcI_some (s_saved ⟨Or.inr (Or.inl rfl), hT30.1, hT30.2.1.1⟩), zcI_some (s_saved ⟨Or.inl rfl, d1.2.1, d2.1⟩), hT30.2.1.2.1, d2.2.1, show vC q.1 q.2.1 (cRn 0 N 30) 65 = _ from hT30.2.2, show vC q.1 q.2.1 (cRn 0 N 30) 55 = _ from d3, its_eq hq]
    · rw [← e2]; funext i; exact fT.1 2 i (by omega)
    · rw [← e3]; funext i; exact fT.1 3 i (by omega)
  obtain ⟨s', N', ⟨Mk, rfl, g1, g2⟩, e⟩ := zfix_inv (B := gX9_worthOfRow_L13 (nI c)) (fun k s => ∃ Mk : zM, s = (nI k, Mk) ∧ FrW 65 p M3 Mk ∧ cT Mk p q (rkP V (M.1 2) k)) c (fun k hk s hs => by
      obtain ⟨Mk, rfl, g1, g2⟩ := hs
      have hn := hq.1.1
      have er : Mk.1 2 k = M.1 2 k := by rw [g1.1 2 k (by omega), e2]
      refine ⟨(nI (k + 1), zI Mk 66 k (M.1 2 k)), ⟨_, rfl, g1.tr ⟨fun a i w => zI_of (by omega), rfl, fun _ _ _ => rfl⟩, g2.1, g2.2.1.mono (fun a i z1 z2 => zI_of (by have := isPl_lt g2.2.1.1.1; omega)), ?_⟩, fun rc => ?_⟩
      · rw [← rkP_s]
        exact g2.2.2.put (c := 1) (vdN (by omega) (by omega) (by omega))
      · unfold gX9_worthOfRow_L13
        dsimp only
        rw [if_neg (nI_ge hk (by omega)), litF, if_neg (nI_ge (by omega) (by omega)), zg_true (zok_nI (show k < 4 by omega) (by omega)), zg_true (zok_nI (show k < 6 by omega) (by omega)), zlet_eq, nI_cl (by omega), er, nI_1]) c 0 zFu (0, M3) (by omega) (by unfold zFu; omega) ⟨M3, by rw [nI_0], FrW.rf, by rw [rkP_0]; exact hT3⟩
  rw [e]
  unfold gX9_worthOfRow_L13
  dsimp only
  rw [if_pos (nI_le (Nat.le_refl _) (by omega))]
  exact J44 Mk g1 g2
/-! the best so far -/
def updO (q : PPt) (V : AV) (c : Nat) (st : Nat × List Nat) (L : List Nat) : Nat × List Nat := if st.1 ≤ itsA q V c (arrO L) then (itsA q V c (arrO L) + 1, L) else st
theorem updO_le {q : PPt} {V : AV} {c : Nat} {st : Nat × List Nat} {L : List Nat} (hq : pI q) (h : st.1 ≤ 1000) : (updO q V c st L).1 ≤ 1000 ∧ (updO q V c st L).1 ≠ 0 := by
  unfold updO
  have := itsA_le (V := V) (c := c) (A := arrO L) hq
  split
  · exact ⟨by dsimp only; omega, by dsimp only; omega⟩
  · exact ⟨h, by omega⟩
def fo {α β : Type} (f : β → α → β) (d : α) (s : β) (E : List α) : Nat → β
  | 0 => s
  | j + 1 => f (fo f d s E j) (E.getD j d)
theorem fo_cons {α β : Type} {f : β → α → β} {d : α} {s : β} {L : α} {E : List α} : ∀ j, fo f d s (L :: E) (j + 1) = fo f d (f s L) E j := by
  intro j
  induction j with
  | zero => rfl
  | succ j ih =>
    show f (fo f d s (L :: E) (j + 1)) ((L :: E).getD (j + 1) d) = f (fo f d (f s L) E j) (E.getD j d)
    rw [ih]; rfl
theorem fo_foldl {α β : Type} {f : β → α → β} {d : α} : ∀ (E : List α) (s : β), E.foldl f s = fo f d s E E.length := by
  intro E
  induction E with
  | nil => intro s; rfl
  | cons L E ih =>
    intro s
    show E.foldl f (f s L) = fo f d s (L :: E) (E.length + 1)
    rw [fo_cons, ih]
def fS (q : PPt) (V : AV) (c mask : Nat) (j : Nat) : Nat × List Nat := fo (updO q V c) [] (0, []) (perms c mask) j
theorem fS_s {q : PPt} {V : AV} {c mask j : Nat} : fS q V c mask (j + 1) = updO q V c (fS q V c mask j) ((perms c mask).getD j []) := rfl
theorem fS_le {q : PPt} {V : AV} {c mask : Nat} (hq : pI q) : ∀ j, (fS q V c mask j).1 ≤ 1000 := by
  intro j
  induction j with
  | zero => exact Nat.zero_le _
  | succ j ih => rw [fS_s]; exact (updO_le hq ih).1
/-- the men of the rank's first places -/
def rkL (V : AV) : Nat → List Nat
  | 0 => []
  | k + 1 => (V 1 k).toNatClampNeg :: rkL V k
theorem rkL_len {V : AV} : ∀ k, (rkL V k).length = k := by
  intro k
  induction k with
  | zero => rfl
  | succ k ih => show (rkL V k).length + 1 = _; rw [ih]
theorem rkL_mem {V : AV} {s : Nat} : ∀ k, s ∈ rkL V k → ∃ j, j < k ∧ s = (V 1 j).toNatClampNeg := by
  intro k
  induction k with
  | zero => intro h; exact absurd h (by simp [rkL])
  | succ k ih =>
    intro h
    have h' : s ∈ (V 1 k).toNatClampNeg :: rkL V k := h
    rcases List.mem_cons.mp h' with e | e
    · exact ⟨k, by omega, e⟩
    · obtain ⟨j, hj, ej⟩ := ih e
      exact ⟨j, by omega, ej⟩
theorem rkL_arr {q : PPt} {V : AV} (hI : wI q V) (hn : q.1 ≤ 6) : ∀ k, k ≤ q.1 → rkL V k ∈ arrg k := by
  intro k
  induction k with
  | zero => intro _; exact List.mem_cons_self
  | succ k ih =>
    intro hk
    obtain ⟨m, hm, e⟩ := hI.1.1 k (by omega)
    refine List.mem_flatMap.mpr ⟨rkL V k, ih (by omega), List.mem_map.mpr ⟨m, List.mem_filter.mpr ⟨List.mem_range.mpr (by omega), ?_⟩, ?_⟩⟩
    · have : ¬ m ∈ rkL V k := fun w => by
        obtain ⟨j, hj, ej⟩ := rkL_mem k w
        obtain ⟨m', hm', e'⟩ := hI.1.1 j (by omega)
        rw [e', nI_cl (by omega)] at ej
        have := hI.2.2.1 k j (by omega) (by omega) (by rw [e, e', ej])
        omega
      simpa using this
    · show m :: rkL V k = (V 1 k).toNatClampNeg :: rkL V k
      rw [e, nI_cl (by omega)]
theorem maskO_mem {s : Nat} : ∀ R : List Nat, (maskO R).testBit s = true → s ∈ R := by
  intro R
  induction R with
  | nil => intro h; simp [maskO] at h
  | cons u R ih =>
    intro h
    have h' : (maskO R ||| 2 ^ u).testBit s = true := h
    rw [Nat.testBit_or, Bool.or_eq_true] at h'
    rcases h' with w | w
    · exact List.mem_cons_of_mem _ (ih w)
    · rw [Nat.testBit_two_pow] at w
      have : u = s := of_decide_eq_true w
      rw [this]; exact List.mem_cons_self
theorem rowOK_of {q : PPt} {V : AV} {c : Nat} {L : List Nat} (hI : wI q V) (hn : q.1 ≤ 6) (hc : c ≤ q.1) (h : rowB c (maskO (rkL V c)) L = true) : rowOK V c (arrO L) ∧ L.length = c := by
  unfold rowB at h
  rw [Bool.and_eq_true] at h
  have key : ∀ i, i < c → L.getD i 0 < 6 ∧ (maskO (rkL V c)).testBit (L.getD i 0) = true ∧ ∀ j, j < c → i = j ∨ L.getD i 0 ≠ L.getD j 0 := fun i hi => by
    have a := List.all_eq_true.mp h.2 i (List.mem_range.mpr hi)
    rw [Bool.and_eq_true, Bool.and_eq_true] at a
    refine ⟨of_decide_eq_true a.1.1, a.1.2, fun j hj => ?_⟩
    have b := List.all_eq_true.mp a.2 j (List.mem_range.mpr hj)
    rw [Bool.or_eq_true] at b
    rcases b with b | b
    · exact Or.inl (of_decide_eq_true b)
    · exact Or.inr (by simpa using b)
  refine ⟨⟨fun i hi => ?_, fun i j hi hj e => ?_⟩, of_decide_eq_true h.1⟩
  · obtain ⟨j, hj, ej⟩ := rkL_mem c (maskO_mem _ (key i hi).2.1)
    obtain ⟨m', hm', e'⟩ := hI.1.1 j (by omega)
    refine ⟨j, hj, ?_⟩
    show nI (L.getD i 0) = _
    rw [ej, e', nI_cl (by omega)]
  · rcases (key i hi).2.2 j hj with w | w
    · exact w
    · have := congrArg Int32.toInt (show nI (L.getD i 0) = nI (L.getD j 0) from e)
      rw [nI_toInt (by have := (key i hi).1; omega), nI_toInt (by have := (key j hj).1; omega)] at this
      omega
