/-! ===== a law's E: how the class takes its TOKENS, one by one ===== -/
/-- signs that wait (the top first: kind, level), KNOTS told, how many KNOTS, OPEN, is an operand due, is it a place of not -/
abbrev CS : Type := List (Nat × Nat) × List (Int32 × Int32) × Nat × Nat × Bool × Bool
def lev (K : Nat) : Nat := if K = 26 then 1 else if K = 27 then 2 else if K = 28 then 3 else if 29 ≤ K ∧ K ≤ 34 then 4 else if K = 35 ∨ K = 36 then 5 else if K = 37 ∨ K = 38 then 6 else 0
def rlL (K : Nat) : Nat := if lev K = 4 then 5 else lev K
def rlT (l : Nat) : List (Nat × Nat) → List (Nat × Nat)
  | [] => []
  | q :: s => if l ≤ q.2 then q :: rlT l s else []
def rlD (l : Nat) : List (Nat × Nat) → List (Nat × Nat)
  | [] => []
  | q :: s => if l ≤ q.2 then rlD l s else q :: s
def rlK (s : List (Nat × Nat)) : List (Int32 × Int32) := s.map (fun q => (nI q.1, 0))
def topL : List (Nat × Nat) → Nat
  | [] => 0
  | q :: _ => q.2
/-- a TOKEN: 0 it goes on, 1 and 2 a FAULT, 9 the law's end -/
def cstep (K : Nat) (v : Int32) : CS → Nat × CS
  | (s, o, kn, op, due, pn) =>
    if due = true then
      (if K = 5 then (if op < 8 then (0, ((5, 0) :: s, o, kn, op + 1, true, true)) else (2, (s, o, kn, op, due, pn)))
      else if K = 28 ∧ pn = true then (if kn < 64 then (0, ((28, 3) :: s, o, kn + 1, op, true, pn)) else (2, (s, o, kn, op, due, pn)))
      else if K = 3 ∨ (19 ≤ K ∧ K ≤ 25) then (if (K = 3 ∧ 9999 < v) ∨ 64 ≤ kn then (2, (s, o, kn, op, due, pn)) else (0, (s, o ++ [(nI K, v)], kn + 1, op, false, pn)))
      else (1, (s, o, kn, op, due, pn)))
    else if K = 4 ∧ op = 0 then (9, (s, o, kn, op, due, pn))
    else if K = 6 ∧ 0 < op then (0, ((rlD 1 s).tail, o ++ rlK (rlT 1 s), kn, op - 1, false, pn))
    else if K = 28 ∨ lev K = 0 then (1, (s, o, kn, op, due, pn))
    else if lev K = 4 ∧ topL (rlD 5 s) = 4 then (1, (s, o, kn, op, due, pn))
    else if kn < 64 then (0, ((K, lev K) :: rlD (rlL K) s, o ++ rlK (rlT (rlL K) s), kn + 1, op, true, decide (K = 27 ∨ K = 26)))
    else (2, (s, o, kn, op, due, pn))
def crun (K : Nat → Nat) (v : Nat → Int32) : Nat → CS → Nat → Nat × CS × Nat
  | 0, c, i => (0, c, i)
  | m + 1, c, i => if (cstep (K i) (v i) c).1 = 0 then crun K v m (cstep (K i) (v i) c).2 (i + 1) else ((cstep (K i) (v i) c).1, (cstep (K i) (v i) c).2, i)
theorem crun_go {K : Nat → Nat} {v : Nat → Int32} {m : Nat} {c c' : CS} {i : Nat} (h : cstep (K i) (v i) c = (0, c')) : crun K v (m + 1) c i = crun K v m c' (i + 1) := by
  show (if _ then _ else _) = _
  rw [h, if_pos rfl]
theorem crun_no {K : Nat → Nat} {v : Nat → Int32} {m f : Nat} {c c' : CS} {i : Nat} (h : cstep (K i) (v i) c = (f, c')) (hf : f ≠ 0) : crun K v (m + 1) c i = (f, c', i) := by
  show (if _ then _ else _) = _
  rw [h, if_neg hf]
theorem crun_add {K : Nat → Nat} {v : Nat → Int32} {n : Nat} : ∀ {m : Nat} {c c' : CS} {i i' : Nat}, crun K v m c i = (0, c', i') → crun K v (m + n) c i = crun K v n c' i' := by
  intro m
  induction m with
  | zero =>
    intro c c' i i' h
    have e : (0, c, i) = ((0 : Nat), c', i') := h
    obtain ⟨_, e1, e2⟩ := Prod.mk.inj e |>.imp id Prod.mk.inj
    rw [Nat.zero_add, e1, e2]
  | succ m ih =>
    intro c c' i i' h
    rw [show m + 1 + n = (m + n) + 1 by omega]
    by_cases hs : (cstep (K i) (v i) c).1 = 0
    · have e : cstep (K i) (v i) c = (0, (cstep (K i) (v i) c).2) := Prod.ext hs rfl
      rw [crun_go e] at h ⊢
      exact ih h
    · have e : cstep (K i) (v i) c = ((cstep (K i) (v i) c).1, (cstep (K i) (v i) c).2) := rfl
      rw [crun_no e hs] at h
      exact absurd (Prod.mk.inj h).1 hs
theorem crun_one {K : Nat → Nat} {v : Nat → Int32} {c c' : CS} {i : Nat} (h : cstep (K i) (v i) c = (0, c')) : crun K v 1 c i = (0, c', i + 1) := crun_go (m := 0) h
/-! what waits -/
theorem rl_split {l : Nat} {W : List (Nat × Nat)} (hW : topL W < l) : ∀ {P : List (Nat × Nat)}, (∀ q ∈ P, l ≤ q.2) → rlT l (P ++ W) = P ∧ rlD l (P ++ W) = W := by
  intro P
  induction P with
  | nil =>
    intro _
    cases W with
    | nil => exact ⟨rfl, rfl⟩
    | cons q W =>
      have : ¬ l ≤ q.2 := by have : q.2 < l := hW; omega
      constructor
      · show (if l ≤ q.2 then _ else _) = _
        rw [if_neg this]
      · show (if l ≤ q.2 then _ else _) = _
        rw [if_neg this]
  | cons q P ih =>
    intro h
    have a := ih (fun x hx => h x (List.mem_cons_of_mem _ hx))
    have b := h q List.mem_cons_self
    constructor
    · show (if l ≤ q.2 then q :: rlT l (P ++ W) else []) = _
      rw [if_pos b, a.1]
    · show (if l ≤ q.2 then rlD l (P ++ W) else q :: (P ++ W)) = _
      rw [if_pos b, a.2]
theorem rl_top {P X : List (Nat × Nat)} (h : topL (rlD 5 P) = 4) : topL (rlD 5 (P ++ X)) = 4 := by
  induction P with
  | nil => exact absurd h (by decide)
  | cons q P ih =>
    have e1 : rlD 5 (q :: P) = if 5 ≤ q.2 then rlD 5 P else q :: P := rfl
    have e2 : rlD 5 (q :: P ++ X) = if 5 ≤ q.2 then rlD 5 (P ++ X) else q :: P ++ X := rfl
    rw [e1] at h
    rw [e2]
    by_cases w : 5 ≤ q.2
    · rw [if_pos w] at h ⊢
      exact ih h
    · rw [if_neg w] at h ⊢
      exact h
theorem rlK_app (a b : List (Nat × Nat)) : rlK (a ++ b) = rlK a ++ rlK b := List.map_append
/-! the six kinds of part: 0 expression, 1 conjunction, 2 negation, 3 sum, 4 product, 5 primary -/
def bd (t : Nat) : Nat := if t = 0 then 1 else if t = 1 then 2 else t + 2
def lb (t : Nat) : Nat := if t ≤ 2 then t + 1 else t + 2
def pnOk (K : Nat → Nat) (t : Nat) (pn : Bool) (i : Nat) : Prop := if t ≤ 2 then pn = true else pn = false ∨ K i ≠ 28
/-- the class behind a part of kind t, from the TOKEN i to j, by which the KNOTS c are told -/
def okO (K : Nat → Nat) (v : Nat → Int32) (t i j : Nat) (out c : List (Int32 × Int32)) (kn op : Nat) : Prop :=
  i < j ∧ ∀ W pn, topL W < bd t → pnOk K t pn i → ∃ P o' pn', crun K v (j - i) (W, out, kn, op, true, pn) i = (0, (P ++ W, o', kn + c.length, op, false, pn'), j) ∧ out ++ c = o' ++ rlK P ∧ (∀ q ∈ P, lb t ≤ q.2) ∧ (t ≤ 2 → lev (K j) = 4 → topL (rlD 5 P) = 4)
/-- the class finds a FAULT f at the TOKEN j -/
def noO (K : Nat → Nat) (v : Nat → Int32) (t i j f : Nat) (out : List (Int32 × Int32)) (kn op : Nat) : Prop :=
  i ≤ j ∧ (f = 1 ∨ f = 2) ∧ ∀ W pn, topL W < bd t → pnOk K t pn i → ∃ c', crun K v (j - i + 1) (W, out, kn, op, true, pn) i = (f, c', j)
def nxt (K : Nat → Nat) (t j : Nat) : Prop := lev (K j) = 3 ∨ lev (K j) = 4 ∨ lev (K j) < bd t
theorem okO_in {K : Nat → Nat} {v : Nat → Int32} {t t' i j : Nat} {out c : List (Int32 × Int32)} {kn op : Nat} (h : okO K v t' i j out c kn op) (hb : bd t ≤ bd t') (hl : lb t ≤ lb t') (hp : ∀ pn, pnOk K t pn i → pnOk K t' pn i) (hc : t ≤ 2 → lev (K j) = 4 → t' ≤ 2) : okO K v t i j out c kn op := by
  refine ⟨h.1, fun W pn hW hpn => ?_⟩
  obtain ⟨P, o', pn', e1, e2, e3, e4⟩ := h.2 W pn (by omega) (hp _ hpn)
  exact ⟨P, o', pn', e1, e2, fun q hq => by have := e3 q hq; omega, fun a b => e4 (hc a b) b⟩
theorem noO_in {K : Nat → Nat} {v : Nat → Int32} {t t' i j f : Nat} {out : List (Int32 × Int32)} {kn op : Nat} (h : noO K v t' i j f out kn op) (hb : bd t ≤ bd t') (hp : ∀ pn, pnOk K t pn i → pnOk K t' pn i) : noO K v t i j f out kn op :=
  ⟨h.1, h.2.1, fun W pn hW hpn => h.2.2 W pn (by omega) (hp _ hpn)⟩
/-- a sign between two parts -/
theorem sg_step {K : Nat → Nat} {v : Nat → Int32} {i : Nat} {P W : List (Nat × Nat)} {o : List (Int32 × Int32)} {kn op : Nat} {pn : Bool} (hK : lev (K i) ≠ 0 ∧ lev (K i) ≠ 3) (hP : ∀ q ∈ P, rlL (K i) ≤ q.2) (hW : topL W < rlL (K i)) (hc : lev (K i) = 4 → topL W ≠ 4) :
    cstep (K i) (v i) (P ++ W, o, kn, op, false, pn) = if kn < 64 then (0, ((K i, lev (K i)) :: W, o ++ rlK P, kn + 1, op, true, decide (K i = 27 ∨ K i = 26))) else (2, (P ++ W, o, kn, op, false, pn)) := by
  have h4 : ¬ (K i = 4 ∧ op = 0) := fun w => hK.1 (by rw [w.1]; rfl)
  have h6 : ¬ (K i = 6 ∧ 0 < op) := fun w => hK.1 (by rw [w.1]; rfl)
  have h28 : ¬ (K i = 28 ∨ lev (K i) = 0) := fun w => w.elim (fun e => hK.2 (by rw [e]; rfl)) hK.1
  have sp := rl_split hW hP
  have h44 : ¬ (lev (K i) = 4 ∧ topL (rlD 5 (P ++ W)) = 4) := fun w => by
    have e5 : rlL (K i) = 5 := by unfold rlL; rw [if_pos w.1]
    rw [e5] at sp
    rw [sp.2] at w
    exact hc w.1 w.2
  unfold cstep
  dsimp only
  rw [if_neg (show ¬ (false = true) by decide), if_neg h4, if_neg h6, if_neg h28, if_neg h44, sp.1, sp.2]
theorem bd_le {t : Nat} (h : t < 5) : bd t ≤ bd (t + 1) := by
  unfold bd
  repeat' split
  all_goals omega
theorem lb_le {t : Nat} : lb t ≤ lb (t + 1) := by
  unfold lb
  repeat' split
  all_goals omega
/-- which level binds two parts of kind t + 1 to one of kind t -/
theorem bin_lev {t K : Nat} (ht : t = 0 ∨ t = 1 ∨ t = 3 ∨ t = 4) (h : lev K = lb t) : rlL K = lb t ∧ lev K ≠ 0 ∧ lev K ≠ 3 ∧ lev K ≠ 4 ∧ bd t = lb t ∧ lb t < bd (t + 1) ∧ lb t ≤ lb (t + 1) := by
  unfold rlL
  rw [h]
  rcases ht with rfl | rfl | rfl | rfl <;> decide
theorem bin_pn {t K : Nat} (ht : t = 0 ∨ t = 1 ∨ t = 3 ∨ t = 4) (hK : K ≤ 38) (h : lev K = lb t) : (t ≤ 1 → decide (K = 27 ∨ K = 26) = true) ∧ (3 ≤ t → decide (K = 27 ∨ K = 26) = false) := by
  have : (List.range 39).all (fun K => (List.range 5).all (fun t => !(decide (lev K = lb t) && decide (t ≠ 2)) || ((!decide (t ≤ 1) || decide (K = 27 ∨ K = 26)) && (!decide (3 ≤ t) || !decide (K = 27 ∨ K = 26))))) = true := by decide +kernel
  have a := List.all_eq_true.mp this K (List.mem_range.mpr (by omega))
  have b := List.all_eq_true.mp a t (List.mem_range.mpr (by omega))
  have h2 : t ≠ 2 := by omega
  rw [decide_eq_true h, decide_eq_true h2] at b
  simp only [Bool.and_self, Bool.not_true, Bool.false_or, Bool.and_eq_true, Bool.or_eq_true, Bool.not_eq_true', decide_eq_false_iff_not] at b
  exact ⟨fun w => b.1.elim (fun e => absurd w e) id, fun w => b.2.elim (fun e => absurd w e) (fun e => by simpa using e)⟩
/-- a part, a sign, a part -/
theorem bin_ok {K : Nat → Nat} {v : Nat → Int32} {t i j l : Nat} {out c c1 : List (Int32 × Int32)} {kn op : Nat} (ht : t = 0 ∨ t = 1 ∨ t = 3 ∨ t = 4) (hK : K j ≤ 38) (hl : lev (K j) = lb t) (h : okO K v t i j out c kn op) (hk : kn + c.length < 64) (h1 : okO K v (t + 1) (j + 1) l (out ++ c) c1 (kn + c.length + 1) op) : okO K v t i l out (c ++ c1 ++ [(nI (K j), 0)]) kn op := by
  obtain ⟨b1, b2, b3, b4, b5, b6, b7⟩ := bin_lev ht hl
  have bp := bin_pn ht hK hl
  refine ⟨by have := h.1; have := h1.1; omega, fun W pn hW hpn => ?_⟩
  obtain ⟨P, o', pn', e1, e2, e3, e4⟩ := h.2 W pn hW hpn
  have st := sg_step (v := v) (P := P) (W := W) (o := o') (kn := kn + c.length) (op := op) (pn := pn') (i := j) (K := K) ⟨b2, b3⟩ (fun q hq => by rw [b1]; exact e3 q hq) (by rw [b1, ← b5]; exact hW) (fun w => absurd w b4)
  rw [if_pos hk, ← e2] at st
  have hpn1 : pnOk K (t + 1) (decide (K j = 27 ∨ K j = 26)) (j + 1) := by
    unfold pnOk
    by_cases w : t + 1 ≤ 2
    · rw [if_pos w]; exact bp.1 (by omega)
    · rw [if_neg w]; exact Or.inl (bp.2 (by omega))
  obtain ⟨P1, o1, pn1, f1, f2, f3, f4⟩ := h1.2 ((K j, lev (K j)) :: W) _ (by show lev (K j) < _; rw [hl]; exact b6) hpn1
  refine ⟨P1 ++ [(K j, lev (K j))], o1, pn1, ?_, ?_, ?_, ?_⟩
  · rw [show l - i = (j - i) + ((l - (j + 1)) + 1) by have := h.1; have := h1.1; omega, crun_add e1, crun_go st, f1]
    rw [List.append_assoc, show kn + c.length + 1 + c1.length = kn + (c ++ c1 ++ [(nI (K j), 0)]).length by rw [List.length_append, List.length_append]; show _ = kn + (c.length + c1.length + 1); omega]
    rfl
  · rw [rlK_app, ← List.append_assoc o1, ← f2, ← List.append_assoc, ← List.append_assoc]
    rfl
  · intro q hq
    rcases List.mem_append.mp hq with w | w
    · have := f3 q w; omega
    · rw [List.mem_singleton.mp w]; show lb t ≤ lev (K j); omega
  · intro w1 w2
    rcases ht with rfl | rfl | rfl | rfl
    · exact rl_top (f4 (by omega) w2)
    · exact rl_top (f4 (by omega) w2)
    · omega
    · omega
/-- too many KNOTS at the sign -/
theorem bin_no {K : Nat → Nat} {v : Nat → Int32} {t i j : Nat} {out c : List (Int32 × Int32)} {kn op : Nat} (ht : t = 0 ∨ t = 1 ∨ t = 3 ∨ t = 4) (hl : lev (K j) = lb t) (h : okO K v t i j out c kn op) (hk : ¬ kn + c.length < 64) : noO K v t i j 2 out kn op := by
  obtain ⟨b1, b2, b3, b4, b5, b6, b7⟩ := bin_lev ht hl
  refine ⟨by have := h.1; omega, Or.inr rfl, fun W pn hW hpn => ?_⟩
  obtain ⟨P, o', pn', e1, e2, e3, e4⟩ := h.2 W pn hW hpn
  have st := sg_step (v := v) (P := P) (W := W) (o := o') (kn := kn + c.length) (op := op) (pn := pn') (i := j) (K := K) ⟨b2, b3⟩ (fun q hq => by rw [b1]; exact e3 q hq) (by rw [b1, ← b5]; exact hW) (fun w => absurd w b4)
  rw [if_neg hk] at st
  exact ⟨_, by rw [crun_add e1, crun_no (m := 0) st (by decide)]⟩
/-- a FAULT behind the sign -/
theorem bin_no1 {K : Nat → Nat} {v : Nat → Int32} {t i j l f : Nat} {out c : List (Int32 × Int32)} {kn op : Nat} (ht : t = 0 ∨ t = 1 ∨ t = 3 ∨ t = 4) (hK : K j ≤ 38) (hl : lev (K j) = lb t) (h : okO K v t i j out c kn op) (hk : kn + c.length < 64) (h1 : noO K v (t + 1) (j + 1) l f (out ++ c) (kn + c.length + 1) op) : noO K v t i l f out kn op := by
  obtain ⟨b1, b2, b3, b4, b5, b6, b7⟩ := bin_lev ht hl
  have bp := bin_pn ht hK hl
  refine ⟨by have := h.1; have := h1.1; omega, h1.2.1, fun W pn hW hpn => ?_⟩
  obtain ⟨P, o', pn', e1, e2, e3, e4⟩ := h.2 W pn hW hpn
  have st := sg_step (v := v) (P := P) (W := W) (o := o') (kn := kn + c.length) (op := op) (pn := pn') (i := j) (K := K) ⟨b2, b3⟩ (fun q hq => by rw [b1]; exact e3 q hq) (by rw [b1, ← b5]; exact hW) (fun w => absurd w b4)
  rw [if_pos hk, ← e2] at st
  have hpn1 : pnOk K (t + 1) (decide (K j = 27 ∨ K j = 26)) (j + 1) := by
    unfold pnOk
    by_cases w : t + 1 ≤ 2
    · rw [if_pos w]; exact bp.1 (by omega)
    · rw [if_neg w]; exact Or.inl (bp.2 (by omega))
  obtain ⟨c', f1⟩ := h1.2.2 ((K j, lev (K j)) :: W) _ (by show lev (K j) < _; rw [hl]; exact b6) hpn1
  exact ⟨c', by rw [show l - i + 1 = (j - i) + ((l - (j + 1) + 1) + 1) by have := h.1; have := h1.1; omega, crun_add e1, crun_go st, f1]⟩
/-! not -/
theorem not_step {K : Nat → Nat} {v : Nat → Int32} {i : Nat} {W : List (Nat × Nat)} {o : List (Int32 × Int32)} {kn op : Nat} (hK : K i = 28) : cstep (K i) (v i) (W, o, kn, op, true, true) = if kn < 64 then (0, ((28, 3) :: W, o, kn + 1, op, true, true)) else (2, (W, o, kn, op, true, true)) := by
  unfold cstep
  dsimp only
  rw [if_pos rfl, hK, if_neg (by decide), if_pos ⟨rfl, rfl⟩]
theorem not_ok {K : Nat → Nat} {v : Nat → Int32} {i l : Nat} {out c1 : List (Int32 × Int32)} {kn op : Nat} (hK : K i = 28) (hk : kn < 64) (h1 : okO K v 2 (i + 1) l out c1 (kn + 1) op) : okO K v 2 i l out (c1 ++ [(nI 28, 0)]) kn op := by
  refine ⟨by have := h1.1; omega, fun W pn hW hpn => ?_⟩
  have hp : pn = true := by unfold pnOk at hpn; rw [if_pos (by decide)] at hpn; exact hpn
  subst hp
  have st := not_step (v := v) (W := W) (o := out) (kn := kn) (op := op) hK
  rw [if_pos hk] at st
  obtain ⟨P1, o1, pn1, f1, f2, f3, f4⟩ := h1.2 ((28, 3) :: W) true (by show 3 < bd 2; decide) (by unfold pnOk; rw [if_pos (by decide)])
  refine ⟨P1 ++ [(28, 3)], o1, pn1, ?_, ?_, ?_, fun w1 w2 => rl_top (f4 w1 w2)⟩
  · rw [show l - i = (l - (i + 1)) + 1 by have := h1.1; omega, crun_go st, f1, List.append_assoc, show kn + 1 + c1.length = kn + (c1 ++ [((nI 28, 0) : Int32 × Int32)]).length by rw [List.length_append]; show _ = kn + (c1.length + 1); omega]
    rfl
  · rw [rlK_app, ← List.append_assoc o1, ← f2, ← List.append_assoc]
    rfl
  · intro q hq
    rcases List.mem_append.mp hq with w | w
    · exact f3 q w
    · rw [List.mem_singleton.mp w]; decide
theorem not_no {K : Nat → Nat} {v : Nat → Int32} {i : Nat} {out : List (Int32 × Int32)} {kn op : Nat} (hK : K i = 28) (hk : ¬ kn < 64) : noO K v 2 i i 2 out kn op := by
  refine ⟨Nat.le_refl _, Or.inr rfl, fun W pn hW hpn => ?_⟩
  have hp : pn = true := by unfold pnOk at hpn; rw [if_pos (by decide)] at hpn; exact hpn
  subst hp
  have st := not_step (v := v) (W := W) (o := out) (kn := kn) (op := op) hK
  rw [if_neg hk] at st
  exact ⟨_, by rw [Nat.sub_self, crun_no (m := 0) st (by decide)]⟩
theorem not_no1 {K : Nat → Nat} {v : Nat → Int32} {i l f : Nat} {out : List (Int32 × Int32)} {kn op : Nat} (hK : K i = 28) (hk : kn < 64) (h1 : noO K v 2 (i + 1) l f out (kn + 1) op) : noO K v 2 i l f out kn op := by
  refine ⟨by have := h1.1; omega, h1.2.1, fun W pn hW hpn => ?_⟩
  have hp : pn = true := by unfold pnOk at hpn; rw [if_pos (by decide)] at hpn; exact hpn
  subst hp
  have st := not_step (v := v) (W := W) (o := out) (kn := kn) (op := op) hK
  rw [if_pos hk] at st
  obtain ⟨c', f1⟩ := h1.2.2 ((28, 3) :: W) true (by show 3 < bd 2; decide) (by unfold pnOk; rw [if_pos (by decide)])
  exact ⟨c', by rw [show l - i + 1 = (l - (i + 1) + 1) + 1 by have := h1.1; omega, crun_go st, f1]⟩
/-! a comparison -/
theorem cmp_pn {K : Nat} (h : lev K = 4) : decide (K = 27 ∨ K = 26) = false := by
  refine decide_eq_false (fun w => ?_)
  rcases w with rfl | rfl <;> exact absurd h (by decide)
theorem cmp_ok {K : Nat → Nat} {v : Nat → Int32} {i j l : Nat} {out c c1 : List (Int32 × Int32)} {kn op : Nat} (hn : K i ≠ 28) (hl : lev (K j) = 4) (h : okO K v 3 i j out c kn op) (hk : kn + c.length < 64) (h1 : okO K v 3 (j + 1) l (out ++ c) c1 (kn + c.length + 1) op) : okO K v 2 i l out (c ++ c1 ++ [(nI (K j), 0)]) kn op := by
  have e5 : rlL (K j) = 5 := by unfold rlL; rw [if_pos hl]
  refine ⟨by have := h.1; have := h1.1; omega, fun W pn hW hpn => ?_⟩
  have hW' : topL W < 4 := hW
  obtain ⟨P, o', pn', e1, e2, e3, e4⟩ := h.2 W pn (by show topL W < 5; omega) (by unfold pnOk; rw [if_neg (by decide)]; exact Or.inr hn)
  have st := sg_step (v := v) (P := P) (W := W) (o := o') (kn := kn + c.length) (op := op) (pn := pn') (i := j) (K := K) ⟨by omega, by omega⟩ (fun q hq => by rw [e5]; exact e3 q hq) (by rw [e5]; omega) (fun w => by omega)
  rw [if_pos hk, ← e2, cmp_pn hl] at st
  obtain ⟨P1, o1, pn1, f1, f2, f3, f4⟩ := h1.2 ((K j, lev (K j)) :: W) false (by show lev (K j) < 5; omega) (by unfold pnOk; rw [if_neg (by decide)]; exact Or.inl rfl)
  refine ⟨P1 ++ [(K j, lev (K j))], o1, pn1, ?_, ?_, ?_, ?_⟩
  · rw [show l - i = (j - i) + ((l - (j + 1)) + 1) by have := h.1; have := h1.1; omega, crun_add e1, crun_go st, f1]
    rw [List.append_assoc, show kn + c.length + 1 + c1.length = kn + (c ++ c1 ++ [(nI (K j), 0)]).length by rw [List.length_append, List.length_append]; show _ = kn + (c.length + c1.length + 1); omega]
    rfl
  · rw [rlK_app, ← List.append_assoc o1, ← f2, ← List.append_assoc, ← List.append_assoc]
    rfl
  · intro q hq
    rcases List.mem_append.mp hq with w | w
    · have : 5 ≤ q.2 := f3 q w
      show 3 ≤ q.2; omega
    · rw [List.mem_singleton.mp w]; show 3 ≤ lev (K j); omega
  · intro _ _
    rw [(rl_split (l := 5) (W := [(K j, lev (K j))]) (by show lev (K j) < 5; omega) (fun q hq => f3 q hq)).2]
    exact hl
theorem cmp_no {K : Nat → Nat} {v : Nat → Int32} {i j : Nat} {out c : List (Int32 × Int32)} {kn op : Nat} (hn : K i ≠ 28) (hl : lev (K j) = 4) (h : okO K v 3 i j out c kn op) (hk : ¬ kn + c.length < 64) : noO K v 2 i j 2 out kn op := by
  have e5 : rlL (K j) = 5 := by unfold rlL; rw [if_pos hl]
  refine ⟨by have := h.1; omega, Or.inr rfl, fun W pn hW hpn => ?_⟩
  have hW' : topL W < 4 := hW
  obtain ⟨P, o', pn', e1, e2, e3, e4⟩ := h.2 W pn (by show topL W < 5; omega) (by unfold pnOk; rw [if_neg (by decide)]; exact Or.inr hn)
  have st := sg_step (v := v) (P := P) (W := W) (o := o') (kn := kn + c.length) (op := op) (pn := pn') (i := j) (K := K) ⟨by omega, by omega⟩ (fun q hq => by rw [e5]; exact e3 q hq) (by rw [e5]; omega) (fun w => by omega)
  rw [if_neg hk] at st
  exact ⟨_, by rw [crun_add e1, crun_no (m := 0) st (by decide)]⟩
theorem cmp_no1 {K : Nat → Nat} {v : Nat → Int32} {i j l f : Nat} {out c : List (Int32 × Int32)} {kn op : Nat} (hn : K i ≠ 28) (hl : lev (K j) = 4) (h : okO K v 3 i j out c kn op) (hk : kn + c.length < 64) (h1 : noO K v 3 (j + 1) l f (out ++ c) (kn + c.length + 1) op) : noO K v 2 i l f out kn op := by
  have e5 : rlL (K j) = 5 := by unfold rlL; rw [if_pos hl]
  refine ⟨by have := h.1; have := h1.1; omega, h1.2.1, fun W pn hW hpn => ?_⟩
  have hW' : topL W < 4 := hW
  obtain ⟨P, o', pn', e1, e2, e3, e4⟩ := h.2 W pn (by show topL W < 5; omega) (by unfold pnOk; rw [if_neg (by decide)]; exact Or.inr hn)
  have st := sg_step (v := v) (P := P) (W := W) (o := o') (kn := kn + c.length) (op := op) (pn := pn') (i := j) (K := K) ⟨by omega, by omega⟩ (fun q hq => by rw [e5]; exact e3 q hq) (by rw [e5]; omega) (fun w => by omega)
  rw [if_pos hk, ← e2, cmp_pn hl] at st
  obtain ⟨c', f1⟩ := h1.2.2 ((K j, lev (K j)) :: W) false (by show lev (K j) < 5; omega) (by unfold pnOk; rw [if_neg (by decide)]; exact Or.inl rfl)
  exact ⟨c', by rw [show l - i + 1 = (j - i) + ((l - (j + 1) + 1) + 1) by have := h.1; have := h1.1; omega, crun_add e1, crun_go st, f1]⟩
/-! ( E ) -/
theorem opn_step {K : Nat → Nat} {v : Nat → Int32} {i : Nat} {W : List (Nat × Nat)} {o : List (Int32 × Int32)} {kn op : Nat} {pn : Bool} (hK : K i = 5) : cstep (K i) (v i) (W, o, kn, op, true, pn) = if op < 8 then (0, ((5, 0) :: W, o, kn, op + 1, true, true)) else (2, (W, o, kn, op, true, pn)) := by
  unfold cstep
  dsimp only
  rw [if_pos rfl, hK, if_pos rfl]
/-- what the class says to a TOKEN behind a whole E that goes on neither -/
theorem end_step {K : Nat → Nat} {v : Nat → Int32} {j : Nat} {P W : List (Nat × Nat)} {o : List (Int32 × Int32)} {kn op : Nat} {pn : Bool} (hx : nxt K 0 j) (h4 : ¬ (K j = 4 ∧ op = 0)) (h6 : ¬ (K j = 6 ∧ 0 < op)) (hc : lev (K j) = 4 → topL (rlD 5 P) = 4) : ∃ c', cstep (K j) (v j) (P ++ W, o, kn, op, false, pn) = (1, c') := by
  unfold cstep
  dsimp only
  rw [if_neg (show ¬ (false = true) by decide), if_neg h4, if_neg h6]
  by_cases h28 : K j = 28 ∨ lev (K j) = 0
  · rw [if_pos h28]; exact ⟨_, rfl⟩
  · rw [if_neg h28]
    have h44 : lev (K j) = 4 := by
      rcases hx with w | w | w
      · exfalso
        have : lev (K j) = 3 → K j = 28 := by
          unfold lev
          intro w
          repeat' (split at w)
          all_goals first | assumption | omega
        exact h28 (Or.inl (this w))
      · exact w
      · exact absurd (show lev (K j) = 0 by have : lev (K j) < 1 := w; omega) (fun z => h28 (Or.inr z))
    rw [if_pos ⟨h44, rl_top (hc h44)⟩]
    exact ⟨_, rfl⟩
theorem par_ok {K : Nat → Nat} {v : Nat → Int32} {i l : Nat} {out c1 : List (Int32 × Int32)} {kn op : Nat} (hK : K i = 5) (ho : op < 8) (h1 : okO K v 0 (i + 1) l out c1 kn (op + 1)) (hl : K l = 6) : okO K v 5 i (l + 1) out c1 kn op := by
  refine ⟨by have := h1.1; omega, fun W pn hW hpn => ?_⟩
  have st := opn_step (v := v) (W := W) (o := out) (kn := kn) (op := op) (pn := pn) hK
  rw [if_pos ho] at st
  obtain ⟨P1, o1, pn1, f1, f2, f3, f4⟩ := h1.2 ((5, 0) :: W) true (by show 0 < 1; decide) (by unfold pnOk; rw [if_pos (by decide)])
  have sp := rl_split (l := 1) (W := (5, 0) :: W) (by show 0 < 1; decide) (fun q hq => f3 q hq)
  have st2 : cstep (K l) (v l) (P1 ++ (5, 0) :: W, o1, kn + c1.length, op + 1, false, pn1) = (0, (W, o1 ++ rlK P1, kn + c1.length, op, false, pn1)) := by
    unfold cstep
    dsimp only
    rw [if_neg (show ¬ (false = true) by decide), hl, if_neg (by omega), if_pos ⟨rfl, by omega⟩, sp.1, sp.2]
    rfl
  refine ⟨[], o1 ++ rlK P1, pn1, ?_, ?_, ?_, fun w => absurd w (by decide)⟩
  · rw [show l + 1 - i = ((l - (i + 1)) + 1) + 1 by have := h1.1; omega, crun_go st, crun_add (n := 1) f1, crun_one st2]
    rfl
  · rw [f2]; show _ = _ ++ []; rw [List.append_nil]
  · intro q hq; cases hq
theorem par_no {K : Nat → Nat} {v : Nat → Int32} {i : Nat} {out : List (Int32 × Int32)} {kn op : Nat} (hK : K i = 5) (ho : ¬ op < 8) : noO K v 5 i i 2 out kn op := by
  refine ⟨Nat.le_refl _, Or.inr rfl, fun W pn hW hpn => ?_⟩
  have st := opn_step (v := v) (W := W) (o := out) (kn := kn) (op := op) (pn := pn) hK
  rw [if_neg ho] at st
  exact ⟨_, by rw [Nat.sub_self, crun_no (m := 0) st (by decide)]⟩
theorem par_no1 {K : Nat → Nat} {v : Nat → Int32} {i l f : Nat} {out : List (Int32 × Int32)} {kn op : Nat} (hK : K i = 5) (ho : op < 8) (h1 : noO K v 0 (i + 1) l f out kn (op + 1)) : noO K v 5 i l f out kn op := by
  refine ⟨by have := h1.1; omega, h1.2.1, fun W pn hW hpn => ?_⟩
  have st := opn_step (v := v) (W := W) (o := out) (kn := kn) (op := op) (pn := pn) hK
  rw [if_pos ho] at st
  obtain ⟨c', f1⟩ := h1.2.2 ((5, 0) :: W) true (by show 0 < 1; decide) (by unfold pnOk; rw [if_pos (by decide)])
  exact ⟨c', by rw [show l - i + 1 = (l - (i + 1) + 1) + 1 by have := h1.1; omega, crun_go st, f1]⟩
theorem par_no2 {K : Nat → Nat} {v : Nat → Int32} {i l : Nat} {out c1 : List (Int32 × Int32)} {kn op : Nat} (hK : K i = 5) (ho : op < 8) (h1 : okO K v 0 (i + 1) l out c1 kn (op + 1)) (hx : nxt K 0 l) (hl : K l ≠ 6) : noO K v 5 i l 1 out kn op := by
  refine ⟨by have := h1.1; omega, Or.inl rfl, fun W pn hW hpn => ?_⟩
  have st := opn_step (v := v) (W := W) (o := out) (kn := kn) (op := op) (pn := pn) hK
  rw [if_pos ho] at st
  obtain ⟨P1, o1, pn1, f1, f2, f3, f4⟩ := h1.2 ((5, 0) :: W) true (by show 0 < 1; decide) (by unfold pnOk; rw [if_pos (by decide)])
  obtain ⟨c', st2⟩ := end_step (v := v) (P := P1) (W := (5, 0) :: W) (o := o1) (kn := kn + c1.length) (op := op + 1) (pn := pn1) hx (by omega) (fun w => hl w.1) (f4 (by decide))
  refine ⟨c', ?_⟩
  rw [show l - i + 1 = ((l - (i + 1)) + 1) + 1 by have := h1.1; omega, crun_go st, crun_add (n := 1) f1, crun_no (m := 0) st2 (by decide)]
/-! a number or a name -/
theorem atm_step {K : Nat → Nat} {v : Nat → Int32} {i : Nat} {W : List (Nat × Nat)} {o : List (Int32 × Int32)} {kn op : Nat} {pn : Bool} (h5 : K i ≠ 5) (hp : pnOk K 5 pn i) : cstep (K i) (v i) (W, o, kn, op, true, pn) = if K i = 3 ∨ (19 ≤ K i ∧ K i ≤ 25) then (if (K i = 3 ∧ 9999 < v i) ∨ 64 ≤ kn then (2, (W, o, kn, op, true, pn)) else (0, (W, o ++ [(nI (K i), v i)], kn + 1, op, false, pn))) else (1, (W, o, kn, op, true, pn)) := by
  have h28 : ¬ (K i = 28 ∧ pn = true) := fun w => by
    unfold pnOk at hp
    rw [if_neg (by decide)] at hp
    rcases hp with a | a
    · rw [a] at w; exact absurd w.2 (by decide)
    · exact a w.1
  unfold cstep
  dsimp only
  rw [if_pos rfl, if_neg h5, if_neg h28]
theorem atm_ok {K : Nat → Nat} {v : Nat → Int32} {i : Nat} {out : List (Int32 × Int32)} {kn op : Nat} (h : K i = 3 ∨ (19 ≤ K i ∧ K i ≤ 25)) (hn : ¬ ((K i = 3 ∧ 9999 < v i) ∨ 64 ≤ kn)) : okO K v 5 i (i + 1) out [(nI (K i), v i)] kn op := by
  refine ⟨by omega, fun W pn hW hpn => ⟨[], out ++ [(nI (K i), v i)], pn, ?_, ?_, ?_, fun w => absurd w (by decide)⟩⟩
  · have st := atm_step (v := v) (W := W) (o := out) (kn := kn) (op := op) (by omega) hpn
    rw [if_pos h, if_neg hn] at st
    rw [show i + 1 - i = 1 by omega, crun_one st]
    rfl
  · show _ = _ ++ []
    rw [List.append_nil]
  · intro q hq; cases hq
theorem atm_no {K : Nat → Nat} {v : Nat → Int32} {i : Nat} {out : List (Int32 × Int32)} {kn op : Nat} (h : K i = 3 ∨ (19 ≤ K i ∧ K i ≤ 25)) (hn : (K i = 3 ∧ 9999 < v i) ∨ 64 ≤ kn) : noO K v 5 i i 2 out kn op := by
  refine ⟨Nat.le_refl _, Or.inr rfl, fun W pn hW hpn => ?_⟩
  have st := atm_step (v := v) (W := W) (o := out) (kn := kn) (op := op) (by omega) hpn
  rw [if_pos h, if_pos hn] at st
  exact ⟨_, by rw [Nat.sub_self, crun_no (m := 0) st (by decide)]⟩
theorem atm_bad {K : Nat → Nat} {v : Nat → Int32} {i : Nat} {out : List (Int32 × Int32)} {kn op : Nat} (h5 : K i ≠ 5) (h : ¬ (K i = 3 ∨ (19 ≤ K i ∧ K i ≤ 25))) : noO K v 5 i i 1 out kn op := by
  refine ⟨Nat.le_refl _, Or.inl rfl, fun W pn hW hpn => ?_⟩
  have st := atm_step (v := v) (W := W) (o := out) (kn := kn) (op := op) h5 hpn
  rw [if_neg h] at st
  exact ⟨_, by rw [Nat.sub_self, crun_no (m := 0) st (by decide)]⟩
