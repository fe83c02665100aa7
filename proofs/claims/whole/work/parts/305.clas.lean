/-! ===== the class reads an E: TOKEN by TOKEN ===== -/
theorem crun_ge {K : Nat → Nat} {v : Nat → Int32} : ∀ {m : Nat} {c c' : CS} {i i' f : Nat}, crun K v m c i = (f, c', i') → i ≤ i' ∧ (f = 0 → i' = i + m) ∧ (f ≠ 0 → 0 < m) := by
  intro m
  induction m with
  | zero =>
    intro c c' i i' f h
    have e : ((0 : Nat), c, i) = (f, c', i') := h
    have e2 := (Prod.mk.inj (Prod.mk.inj e).2).2
    have e1 := (Prod.mk.inj e).1
    exact ⟨by omega, fun _ => by omega, fun w => absurd e1.symm w⟩
  | succ m ih =>
    intro c c' i i' f h
    by_cases hs : (cstep (K i) (v i) c).1 = 0
    · have e : cstep (K i) (v i) c = (0, (cstep (K i) (v i) c).2) := Prod.ext hs rfl
      rw [crun_go e] at h
      obtain ⟨a1, a2, a3⟩ := ih h
      exact ⟨by omega, fun w => by rw [a2 w]; omega, fun _ => by omega⟩
    · rw [crun_no (show cstep (K i) (v i) c = ((cstep (K i) (v i) c).1, (cstep (K i) (v i) c).2) from rfl) hs] at h
      have e1 := (Prod.mk.inj h).1
      have e2 := (Prod.mk.inj (Prod.mk.inj h).2).2
      exact ⟨by omega, fun w => absurd (e1.trans w) hs, fun _ => by omega⟩
theorem ze_0 {s : List (Nat × Nat)} (h : zeS s = 0) : rlT 1 s = s ∧ rlD 1 s = [] := by
  induction s with
  | nil => exact ⟨rfl, rfl⟩
  | cons q s ih =>
    have e1 : rlD 1 (q :: s) = if 1 ≤ q.2 then rlD 1 s else q :: s := rfl
    have e2 : rlT 1 (q :: s) = if 1 ≤ q.2 then q :: rlT 1 s else [] := rfl
    have e4 : zeS (q :: s) = zeS s + (if q.2 = 0 then 1 else 0) := rfl
    rw [e4] at h
    have w : 1 ≤ q.2 := by
      rcases Nat.eq_zero_or_pos q.2 with z | z
      · rw [if_pos z] at h; omega
      · exact z
    rw [e1, e2, if_pos w, if_pos w, (ih (by omega)).1, (ih (by omega)).2]
    exact ⟨rfl, rfl⟩
def FLd (p law : Nat) (M M' : zM) : Prop := M'.2 = M.2 ∧ ∀ a i, ¬ ((a = 47 ∧ 4 ≤ i) ∨ a = 48 ∨ a = 49 ∨ (a = p + 14) ∨ a = p + 17 ∨ a = p + 18 ∨ (a = p + 16 ∧ i = law)) → M'.1 a i = M.1 a i
theorem FL.d {p law : Nat} {M M' : zM} (h : FL p M M') : FLd p law M M' := ⟨h.1, fun a i q => h.2 a i (fun w => q (by omega))⟩
theorem FLd.tr {p law : Nat} {M M1 M2 : zM} (h : FLd p law M M1) (h2 : FLd p law M1 M2) : FLd p law M M2 := ⟨h2.1.trans h.1, fun a i q => (h2.2 a i q).trans (h.2 a i q)⟩
/-- the law's end -/
def cDone (p N z : Nat) (b : Nat → Nat) (i law : Nat) (c : CS) (M' : zM) : Prop := M'.1 (p + 16) law = nI c.2.2.1 ∧ ouM M' p (c.2.1 ++ rlK c.1) ∧ (c.2.1 ++ rlK c.1).length = c.2.2.1 ∧ M'.1 (p + 14) 0 = nI c.2.2.1 ∧ M'.1 47 4 = nI (i + 1) ∧ cTk M' N z b ∧ M'.2.2 47 3 = some p
theorem c_iter {p : Nat} {M : zM} {N z i x law : Nat} {b : Nat → Nat} {c : CS} (ht : tB N b) (hz : z ≤ 700) (hl : law < 3) (hE : cEM M p N z b i c) (hi : i ≤ z) (hx : x ≤ 700) (rc : (Int32 × zM) → Option (Int32 × zM)) :
    (∃ c' M', cstep (tk N b i) (tv N b i) c = (0, c') ∧ gX5_readLaw_L82 (nI law) p rc (nI x, M) = rc (nI (x + 1), M') ∧ cEM M' p N z b (i + 1) c' ∧ FL p M M') ∨ (∃ f c' M', (f = 1 ∨ f = 2) ∧ cstep (tk N b i) (tv N b i) c = (f, c') ∧ gX5_readLaw_L82 (nI law) p rc (nI x, M) = some (0, M') ∧ cF M' N b f i ∧ FLf p M M') ∨ (∃ c' M', cstep (tk N b i) (tv N b i) c = (9, c') ∧ gX5_readLaw_L82 (nI law) p rc (nI x, M) = some (1, M') ∧ cDone p N z b i law c M' ∧ FLd p law M M') := by
  obtain ⟨s, o, kn, op, due, pn⟩ := c
  obtain ⟨⟨hpl, hr⟩, hT, h4, hM, hc⟩ := hE
  have hp := isPl_lt hpl
  obtain ⟨M25, a1, a2, a3⟩ := c_adv hz hT h4 hi
  have hr2 : M25.2.2 47 3 = some p := by rw [a3.1]; exact hr
  have hT2 : cTk M25 N z b := hT.fl hp a3.L
  have hM2 : cMs M25 p (s, o, kn, op, due, pn) := by
    obtain ⟨m1, m2, m3, m4, m5, m6⟩ := hM
    exact ⟨m1.mono (a3.2 _ _ (by omega)) (fun k => a3.2 _ _ (by omega)) (fun k => a3.2 _ _ (by omega)), m2.mono (a3.2 _ _ (by omega)) (fun k => a3.2 _ _ (by omega)) (fun k => a3.2 _ _ (by omega)), by rw [a3.2 _ _ (by omega)]; exact m3, by rw [a3.2 _ _ (by omega)]; exact m4, by rw [a3.2 _ _ (by omega)]; exact m5, by rw [a3.2 _ _ (by omega)]; exact m6⟩
  have fin : ∀ r E, cOut p N z b i (s, o, kn, op, due, pn) M25 r → E = zcIM r (fun v M' => if v = 0 then some (0, M') else rc (nI x + 1, M')) → (∃ c' M', cstep (tk N b i) (tv N b i) (s, o, kn, op, due, pn) = (0, c') ∧ E = rc (nI (x + 1), M') ∧ cEM M' p N z b (i + 1) c' ∧ FL p M M') ∨ (∃ f c' M', (f = 1 ∨ f = 2) ∧ cstep (tk N b i) (tv N b i) (s, o, kn, op, due, pn) = (f, c') ∧ E = some (0, M') ∧ cF M' N b f i ∧ FLf p M M') ∨ (∃ c' M', cstep (tk N b i) (tv N b i) (s, o, kn, op, due, pn) = (9, c') ∧ E = some (1, M') ∧ cDone p N z b i law (s, o, kn, op, due, pn) M' ∧ FLd p law M M') := fun r E ho hE => by
    rcases ho with ⟨c', M', g1, g2, g3, g4⟩ | ⟨f, c', M', g0, g1, g2, g3, g4⟩
    · refine Or.inl ⟨c', M', g1, ?_, g3, a3.L.tr g4⟩
      rw [hE, g2, zcIM_some rfl, if_neg (by decide), nI_1]
    · refine Or.inr (Or.inl ⟨f, c', M', g0, g1, ?_, g3, a3.L.trf g4⟩)
      rw [hE, g2, zcIM_some rfl, if_pos rfl]
  unfold gX5_readLaw_L82
  dsimp only
  rw [lit700, if_neg (show ¬ nI 700 < nI x by rw [nI_lt_iff (by omega) (by omega)]; omega), zcV_some a1, hM2.2.2.2.2.1]
  cases due with
  | true =>
    rw [if_neg (show ¬ b2i true = 0 by decide)]
    refine fin _ _ (c_operand ht hpl hr2 hT2 a2 hM2 hc) ?_
    unfold gX5_readLaw_J132
    rw [hM2.2.2.2.2.1, if_neg (show ¬ b2i true = 0 by decide)]
  | false =>
    rw [if_pos b2i_f]
    have e132 : gX5_readLaw_J132 (nI law) p (nI x) rc M25 = zcIM (gX5_takeOperator M25) (fun v M' => if v = 0 then some (0, M') else rc (nI x + 1, M')) := by
      unfold gX5_readLaw_J132
      rw [hM2.2.2.2.2.1, if_pos b2i_f]
    by_cases h49 : tk N b i = 4 ∧ op = 0
    · obtain ⟨h4', rfl⟩ := h49
      have st : cstep (tk N b i) (tv N b i) (s, o, kn, 0, false, pn) = (9, (s, o, kn, 0, false, pn)) := by
        unfold cstep
        dsimp only
        rw [if_neg (show ¬ (false = true) by decide), if_pos ⟨h4', rfl⟩]
      obtain ⟨m1, m2, m3, m4, m5, m6⟩ := hM2
      have sl := s_lt hc
      obtain ⟨c1, c2, c3, c4, c5⟩ := hc
      have z0 := ze_0 c3
      have len := len_S s
      obtain ⟨M33, g1, g2, g3, g4⟩ := c_release (l := 1) hpl (by omega) (by omega) sl.2 c5 (by omega) hr2 m1 m2
      rw [z0.1] at g3
      have hlen : (o ++ rlK s).length = kn := by rw [List.length_append, rlK_len]; omega
      rw [a2.2.1, if_pos (by rw [h4']; decide), m4, if_pos (by decide), zcV_some (show gX5_release 1 M25 = _ from g1), zg_true (zok_nI hl (by omega)), zlet_eq, nI_cl (by omega), g3.1, hlen]
      refine Or.inr (Or.inr ⟨_, _, st, rfl, ⟨zI_at, g3.mono (zI_of (by omega)) (fun k => zI_of (by omega)) (fun k => zI_of (by omega)), hlen, ?_, ?_, ?_, ?_⟩, ?_, fun a k w => ?_⟩)
      · rw [zI_of (by omega), g4.2 _ _ (by omega)]; exact m3
      · rw [zI_of (by omega), g4.2 _ _ (by omega)]; exact a2.1
      · exact hT2.mono (fun a k q1 q2 => by rw [zI_of (by omega), g4.2 _ _ (by omega)])
      · show M33.2.2 47 3 = _; rw [g4.1]; exact hr2
      · show M33.2 = M.2; rw [g4.1, a3.1]
      · rw [zI_of (by omega), g4.2 _ _ (by omega), a3.2 _ _ (by omega)]
    · have ho := c_operator ht hpl hr2 hT2 a2 hM2 hc h49
      rw [a2.2.1]
      by_cases w4 : tk N b i = 4
      · rw [if_pos (by rw [w4]; decide), hM2.2.2.2.1, if_neg (show ¬ nI op = 0 from fun w => by
          have h8 : op ≤ 8 := hc.2.2.2.1
          rw [nI_z, nI_eqs (by omega) (by omega)] at w; exact h49 ⟨w4, w⟩), e132]
        exact fin _ _ ho rfl
      · rw [if_neg (show ¬ nI (tk N b i) = 4 from cl_ne (k := 4) (tk_38 ht i) (by omega) w4), e132]
        exact fin _ _ ho rfl
theorem c_crun {p N z law : Nat} {b : Nat → Nat} (ht : tB N b) (hz : z ≤ 700) (hl : law < 3) : ∀ (m : Nat) (c c' : CS) (i i' x n f : Nat) (M : zM), cEM M p N z b i c → x ≤ i → crun (tk N b) (tv N b) m c i = (f, c', i') → i' ≤ z → (f = 0 → ∃ M', zfix (n + m) (gX5_readLaw_L82 (nI law) p) (nI x, M) = zfix n (gX5_readLaw_L82 (nI law) p) (nI (x + m), M') ∧ cEM M' p N z b i' c' ∧ FL p M M') ∧ ((f = 1 ∨ f = 2) → ∃ M', zfix (n + m) (gX5_readLaw_L82 (nI law) p) (nI x, M) = some (0, M') ∧ cF M' N b f i' ∧ FLf p M M') := by
  intro m
  induction m with
  | zero =>
    intro c c' i i' x n f M hE hx hr hi'
    have e : ((0 : Nat), c, i) = (f, c', i') := hr
    have e1 := (Prod.mk.inj e).1
    have e2 := (Prod.mk.inj (Prod.mk.inj e).2).1
    have e3 := (Prod.mk.inj (Prod.mk.inj e).2).2
    subst e1 e2 e3
    exact ⟨fun _ => ⟨M, rfl, hE, FL.rf⟩, fun w => by omega⟩
  | succ m ih =>
    intro c c' i i' x n f M hE hx hr hi'
    have ge := (crun_ge hr).1
    rw [show n + (m + 1) = (n + m) + 1 by omega, zfix_succ]
    rcases c_iter (x := x) ht hz hl hE (by omega) (by omega) (zfix (n + m) (gX5_readLaw_L82 (nI law) p)) with ⟨c1, M1, g1, g2, g3, g4⟩ | ⟨f1, c1, M1, g0, g1, g2, g3, g4⟩ | ⟨c1, M1, g1, g2, g3, g4⟩
    · rw [crun_go g1] at hr
      rw [g2]
      obtain ⟨k1, k2⟩ := ih c1 c' (i + 1) i' (x + 1) n f M1 g3 (by omega) hr hi'
      refine ⟨fun w => ?_, fun w => ?_⟩
      · obtain ⟨M', q1, q2, q3⟩ := k1 w
        refine ⟨M', ?_, q2, g4.tr q3⟩
        rw [q1, show x + 1 + m = x + (m + 1) by omega]
      · obtain ⟨M', q1, q2, q3⟩ := k2 w
        exact ⟨M', q1, q2, g4.trf q3⟩
    · rw [crun_no g1 (by omega)] at hr
      have e1 := (Prod.mk.inj hr).1
      have e3 := (Prod.mk.inj (Prod.mk.inj hr).2).2
      subst e1 e3
      exact ⟨fun w => by omega, fun _ => ⟨M1, g2, g3, g4⟩⟩
    · rw [crun_no g1 (by decide)] at hr
      have e1 := (Prod.mk.inj hr).1
      exact ⟨fun w => by omega, fun w => by omega⟩
