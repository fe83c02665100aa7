/-! ===== takeOperand, takeOperator ===== -/
theorem cTk.fl {M M' : zM} {p N z : Nat} {b : Nat → Nat} (h : cTk M N z b) (hp : p ≤ 26) (hf : FL p M M') : cTk M' N z b := h.mono (fun a i h1 h2 => hf.2 a i (by omega))
theorem fl_fails {p : Nat} {M M' : zM} (h : M'.2 = M.2 ∧ ∀ a i, ¬ (a = 47 ∧ i ≤ 1) → M'.1 a i = M.1 a i) : FLf p M M' := ⟨h.1, fun a i q => h.2 a i (fun w => q (by omega))⟩
theorem zb0 {ρ : Type} {e : Option ρ} : zg (zbit 0) e = e := zg_true (by decide)
theorem zb1 {ρ : Type} {e : Option ρ} : zg (zbit 1) e = e := zg_true (by decide)
theorem s_lt {s : List (Nat × Nat)} {o : List (Int32 × Int32)} {kn op : Nat} {d e : Bool} (hc : ci (s, o, kn, op, d, e)) : s.length ≤ kn + op ∧ s.length < 73 := by
  obtain ⟨h1, h2, h3, h4, h5⟩ := hc
  have := len_S s
  omega
/-- where an operand stands -/
theorem J120_c {p : Nat} {M : zM} {N i : Nat} {b : Nat → Nat} (hA : cAtt M N b i) : ∃ M', gX5_takeOperand_J120 M = some (0, M') ∧ cF M' N b 2 i ∧ FLf p M M' := by
  obtain ⟨M', g1, g2, g3⟩ := c_fails 2 hA
  unfold gX5_takeOperand_J120
  rw [zcIM_some (show gX5_fails 2 M = _ from g1), zb0]
  exact ⟨M', rfl, g2, fl_fails g3⟩
theorem J105_no {p : Nat} {M : zM} {N i kn : Nat} {b : Nat → Nat} {x : Int32} (hpl : zisPl p = true) (hr : M.2.2 47 3 = some p) (hA : cAtt M N b i) (hk : M.1 (p + 14) 0 = nI kn) (h64 : kn ≤ 64) (hn : ¬ kn < 64) : ∃ M', gX5_takeOperand_J105 x M = some (0, M') ∧ cF M' N b 2 i ∧ FLf p M M' := by
  unfold gX5_takeOperand_J105
  rw [zgP_some hr hpl, hk, nI_lit64, if_neg (fun w => by rw [nI_lt_iff (by omega) (by omega)] at w; omega)]
  exact J120_c hA
theorem J105_0 {p : Nat} {M : zM} {N z i kn op : Nat} {b : Nat → Nat} {s : List (Nat × Nat)} {o : List (Int32 × Int32)} {d pn : Bool} (hpl : zisPl p = true) (hr : M.2.2 47 3 = some p) (hT : cTk M N z b) (hA : cAtt M N b i) (hM : cMs M p (s, o, kn, op, d, pn)) (hc : ci (s, o, kn, op, d, pn)) (hn : kn < 64) : ∃ M', gX5_takeOperand_J105 0 M = some (1, M') ∧ cEM M' p N z b (i + 1) (s, o ++ [(nI (tk N b i), tv N b i)], kn + 1, op, false, pn) ∧ FL p M M' := by
  have hp := isPl_lt hpl
  obtain ⟨m1, m2, m3, m4, m5, m6⟩ := hM
  obtain ⟨c1, c2, c3, c4, c5⟩ := hc
  unfold gX5_takeOperand_J105
  rw [zgP_some hr hpl, m3, nI_lit64, if_pos (by rw [nI_lt_iff (by omega) (by omega)]; exact hn), zgP_some hr hpl, zlet_eq, m3, nI_1, if_pos rfl]
  have f0 : FL p M (zI M (p + 14) 0 (nI (kn + 1))) := FL.put (by omega)
  rw [zgP_some (show (zI M (p + 14) 0 (nI (kn + 1))).2.2 47 3 = some p from hr) hpl, zI_of (by omega), zI_of (by omega), hA.2.1, hA.2.2.2]
  obtain ⟨M9, g1, g2, g3⟩ := c_tell (x := nI (tk N b i)) (y := tv N b i) hp (m2.mono (M' := zI M (p + 14) 0 (nI (kn + 1))) (zI_of (by omega)) (fun k => zI_of (by omega)) (fun k => zI_of (by omega))) (by omega)
  rw [zcV_some g1, zlet_eq]
  have fr : ∀ a k, ¬ ((a = p + 14 ∧ k ≤ 1) ∨ a = p + 17 ∨ a = p + 18 ∨ (a = 47 ∧ k = 12)) → (zI M9 47 12 0).1 a k = M.1 a k := fun a k q => by rw [zI_of (by omega), g3.2 _ _ (by omega), zI_of (by omega)]
  refine ⟨_, rfl, ⟨⟨hpl, by show M9.2.2 47 3 = _; rw [g3.1]; exact hr⟩, hT.mono (fun a k h1 h2 => fr a k (by omega)), by rw [fr _ _ (by omega)]; exact hA.1, ⟨m1.mono (fr _ _ (by omega)) (fun k => fr _ _ (by omega)) (fun k => fr _ _ (by omega)), g2.mono (zI_of (by omega)) (fun k => zI_of (by omega)) (fun k => zI_of (by omega)), ?_, by rw [fr _ _ (by omega)]; exact m4, zI_at, by rw [fr _ _ (by omega)]; exact m6⟩, ⟨?_, by omega, c3, c4, c5⟩⟩, g3.1, fun a k q => fr a k (by omega)⟩
  · rw [zI_of (by omega), g3.2 _ _ (by omega), zI_at]
  · rw [List.length_append]; show o.length + 1 + nzS s = kn + 1; omega
theorem J105_1 {p : Nat} {M : zM} {N z i kn op : Nat} {b : Nat → Nat} {s : List (Nat × Nat)} {o : List (Int32 × Int32)} {pn : Bool} (hpl : zisPl p = true) (hr : M.2.2 47 3 = some p) (hT : cTk M N z b) (hA : cAtt M N b i) (hM : cMs M p (s, o, kn, op, true, pn)) (hc : ci (s, o, kn, op, true, pn)) (hn : kn < 64) (hK : tk N b i = 28) : ∃ M', gX5_takeOperand_J105 1 M = some (1, M') ∧ cEM M' p N z b (i + 1) ((28, 3) :: s, o, kn + 1, op, true, pn) ∧ FL p M M' := by
  have hp := isPl_lt hpl
  have sl := s_lt hc
  obtain ⟨m1, m2, m3, m4, m5, m6⟩ := hM
  obtain ⟨c1, c2, c3, c4, c5⟩ := hc
  have len := len_S s
  unfold gX5_takeOperand_J105
  rw [zgP_some hr hpl, m3, nI_lit64, if_pos (by rw [nI_lt_iff (by omega) (by omega)]; exact hn), zgP_some hr hpl, zlet_eq, m3, nI_1, if_neg (by decide), zI_of (by omega), hA.2.1, hK, zcI_some (c_level (K := 28) (by omega))]
  obtain ⟨M9, g1, g2, g3⟩ := c_putW (K := 28) (l := 3) (m1.mono (M' := zI M (p + 14) 0 (nI (kn + 1))) (zI_of (by omega)) (fun k => zI_of (by omega)) (fun k => zI_of (by omega))) (by omega) (by rw [zI_of (by omega), hA.2.1, hK])
  rw [zcV_some (show gX5_putWaiting (nI (lev 28)) _ = _ from g1)]
  have fr : ∀ a k, ¬ ((a = p + 14 ∧ k = 0) ∨ (a = 47 ∧ k = 10) ∨ a = 48 ∨ a = 49) → M9.1 a k = M.1 a k := fun a k q => by rw [g3.2 _ _ (by omega), zI_of (by omega)]
  refine ⟨_, rfl, ⟨⟨hpl, by rw [g3.1]; exact hr⟩, hT.mono (fun a k h1 h2 => fr a k (by omega)), by rw [fr _ _ (by omega)]; exact hA.1, ⟨g2, m2.mono (fr _ _ (by omega)) (fun k => fr _ _ (by omega)) (fun k => fr _ _ (by omega)), ?_, by rw [fr _ _ (by omega)]; exact m4, by rw [fr _ _ (by omega)]; exact m5, by rw [fr _ _ (by omega)]; exact m6⟩, ⟨?_, by omega, ?_, c4, fun q hq => ?_⟩⟩, g3.1, fun a k q => fr a k (by omega)⟩
  · rw [g3.2 _ _ (by omega), zI_at]
  · show o.length + (nzS s + 1) = kn + 1; omega
  · show zeS s + 0 = op; omega
  · rcases List.mem_cons.mp hq with e | e
    · rw [e]; decide
    · exact c5 q e
/-- what came of a TOKEN -/
def cOut (p N z : Nat) (b : Nat → Nat) (i : Nat) (c : CS) (M : zM) (r : Option (Int32 × zM)) : Prop :=
  (∃ c' M', cstep (tk N b i) (tv N b i) c = (0, c') ∧ r = some (1, M') ∧ cEM M' p N z b (i + 1) c' ∧ FL p M M') ∨ (∃ f c' M', (f = 1 ∨ f = 2) ∧ cstep (tk N b i) (tv N b i) c = (f, c') ∧ r = some (0, M') ∧ cF M' N b f i ∧ FLf p M M')
theorem J72_0 {p : Nat} {M : zM} {N i : Nat} {b : Nat → Nat} (hA : cAtt M N b i) : ∃ M', gX5_takeOperand_J72 0 0 0 M = some (0, M') ∧ cF M' N b 1 i ∧ FLf p M M' := by
  obtain ⟨M', g1, g2, g3⟩ := c_fails 1 hA
  unfold gX5_takeOperand_J72
  rw [if_pos rfl, if_pos rfl, if_pos rfl, zcIM_some (show gX5_fails 1 M = _ from g1), zb0]
  exact ⟨M', rfl, g2, fl_fails g3⟩
theorem nI_lts {K k : Nat} (hK : K ≤ 38) (hk : k < 100) : (nI K < nI k) = (K < k) := propext (nI_lt_iff (by omega) (by omega))
theorem c_operand {p : Nat} {M : zM} {N z i kn op : Nat} {b : Nat → Nat} {s : List (Nat × Nat)} {o : List (Int32 × Int32)} {pn : Bool} (ht : tB N b) (hpl : zisPl p = true) (hr : M.2.2 47 3 = some p) (hT : cTk M N z b) (hA : cAtt M N b i) (hM : cMs M p (s, o, kn, op, true, pn)) (hc : ci (s, o, kn, op, true, pn)) : cOut p N z b i (s, o, kn, op, true, pn) M (gX5_takeOperand M) := by
  have hp := isPl_lt hpl
  have h38 := tk_38 ht i
  have sl := s_lt hc
  have hM' := hM
  have hc' := hc
  obtain ⟨m1, m2, m3, m4, m5, m6⟩ := hM
  obtain ⟨c1, c2, c3, c4, c5⟩ := hc
  have len := len_S s
  have k5 := hA.2.1
  unfold gX5_takeOperand cOut
  by_cases h5 : tk N b i = 5
  · rw [k5, if_pos (by rw [h5]; decide)]
    have st := opn_step (K := tk N b) (v := tv N b) (W := s) (o := o) (kn := kn) (op := op) (pn := pn) h5
    unfold gX5_takeOpen
    rw [m4, nI_lit8]
    by_cases ho : op < 8
    · rw [if_pos ho] at st
      rw [if_pos (by rw [nI_lt_iff (by omega) (by omega)]; exact ho), zlet_eq, zlet_eq, nI_1]
      obtain ⟨M5, g1, g2, g3⟩ := c_putW (K := 5) (l := 0) (m1.mono (M' := zI (zI M 47 11 (nI (op + 1))) 47 13 1) (by rw [zI_of (by omega), zI_of (by omega)]) (fun k => by rw [zI_of (by omega), zI_of (by omega)]) (fun k => by rw [zI_of (by omega), zI_of (by omega)])) (by omega) (by rw [zI_of (by omega), zI_of (by omega), k5, h5])
      rw [zcV_some (show gX5_putWaiting 0 _ = _ from g1), zcIM_some rfl, zb1]
      have fr : ∀ a k, ¬ ((a = 47 ∧ (k = 10 ∨ k = 11 ∨ k = 13)) ∨ a = 48 ∨ a = 49) → M5.1 a k = M.1 a k := fun a k q => by rw [g3.2 _ _ (by omega), zI_of (by omega), zI_of (by omega)]
      refine Or.inl ⟨_, M5, st, rfl, ⟨⟨hpl, by rw [g3.1]; exact hr⟩, hT.mono (fun a k h1 h2 => fr a k (by omega)), by rw [fr _ _ (by omega)]; exact hA.1, ⟨g2, m2.mono (fr _ _ (by omega)) (fun k => fr _ _ (by omega)) (fun k => fr _ _ (by omega)), by rw [fr _ _ (by omega)]; exact m3, ?_, by rw [fr _ _ (by omega)]; exact m5, ?_⟩, ⟨?_, c2, ?_, by omega, fun q hq => ?_⟩⟩, g3.1, fun a k q => fr a k (by omega)⟩
      · rw [g3.2 _ _ (by omega), zI_of (by omega), zI_at]
      · rw [g3.2 _ _ (by omega), zI_at]; rfl
      · show o.length + (nzS s + 0) = kn; omega
      · show zeS s + 1 = op + 1; omega
      · rcases List.mem_cons.mp hq with e | e
        · rw [e]; decide
        · exact c5 q e
    · rw [if_neg ho] at st
      rw [if_neg (fun w => by rw [nI_lt_iff (by omega) (by omega)] at w; omega)]
      obtain ⟨M', g1, g2, g3⟩ := c_fails 2 hA
      rw [zcIM_some (show gX5_fails 2 M = _ from g1), zb0, zcIM_some rfl, zb0]
      exact Or.inr ⟨2, _, M', Or.inr rfl, st, rfl, g2, fl_fails g3⟩
  · rw [k5, if_neg (show ¬ nI (tk N b i) = 5 from cl_ne (k := 5) h38 (by omega) h5)]
    by_cases h28 : tk N b i = 28 ∧ pn = true
    · obtain ⟨h28, rfl⟩ := h28
      have st := not_step (K := tk N b) (v := tv N b) (W := s) (o := o) (kn := kn) (op := op) h28
      rw [if_pos (by rw [h28]; decide), m6, if_neg (by decide)]
      have e : gX5_takeOperand_J34 1 M = gX5_takeOperand_J105 1 M := by
        unfold gX5_takeOperand_J34
        rw [k5, h28, if_neg (by decide)]
        unfold gX5_takeOperand_J48
        rw [k5, h28, if_neg (by decide), if_pos (by decide)]
        unfold gX5_takeOperand_J71 gX5_takeOperand_J72
        rw [if_neg (by decide)]
        unfold gX5_takeOperand_J91
        rw [if_pos rfl]
      rw [e]
      by_cases hk : kn < 64
      · rw [if_pos hk] at st
        obtain ⟨M', g1, g2, g3⟩ := J105_1 hpl hr hT hA hM' hc' hk h28
        exact Or.inl ⟨_, M', st, g1, g2, g3⟩
      · rw [if_neg hk] at st
        obtain ⟨M', g1, g2, g3⟩ := J105_no (x := 1) hpl hr hA m3 c2 hk
        exact Or.inr ⟨2, _, M', Or.inr rfl, st, g1, g2, g3⟩
    · have hpn : pnOk (tk N b) 5 pn i := by
        unfold pnOk
        rw [if_neg (by decide)]
        cases pn with
        | false => exact Or.inl rfl
        | true => exact Or.inr (fun w => h28 ⟨w, rfl⟩)
      have st := atm_step (K := tk N b) (v := tv N b) (W := s) (o := o) (kn := kn) (op := op) (pn := pn) h5 hpn
      have e0 : (if nI (tk N b i) = 28 then (if M.1 47 13 = 0 then gX5_takeOperand_J33 M else gX5_takeOperand_J34 1 M) else gX5_takeOperand_J33 M) = gX5_takeOperand_J34 0 M := by
        by_cases w : tk N b i = 28
        · have : pn = false := by
            cases pn with
            | false => rfl
            | true => exact absurd ⟨w, rfl⟩ h28
          rw [if_pos (by rw [w]; decide), m6, this, if_pos b2i_f]
          rfl
        · rw [if_neg (show ¬ nI (tk N b i) = 28 from cl_ne (k := 28) h38 (by omega) w)]
          rfl
      rw [e0]
      unfold gX5_takeOperand_J34
      rw [k5]
      by_cases h3 : tk N b i = 3
      · rw [if_pos (Or.inl h3)] at st
        rw [if_pos (by rw [h3]; decide)]
        unfold gX5_takeOperand_J48
        rw [k5, if_pos (by rw [h3]; decide)]
        unfold gX5_takeOperand_J71 gX5_takeOperand_J72
        rw [if_pos rfl, if_neg (by decide)]
        unfold gX5_takeOperand_J91
        rw [if_neg (by decide), hA.2.2.2]
        by_cases h9 : 9999 < tv N b i
        · rw [if_pos (Or.inl ⟨h3, h9⟩)] at st
          rw [if_pos h9]
          obtain ⟨M', g1, g2, g3⟩ := J120_c (p := p) hA
          exact Or.inr ⟨2, _, M', Or.inr rfl, st, g1, g2, g3⟩
        · rw [if_neg h9]
          by_cases hk : kn < 64
          · rw [if_neg (fun w => w.elim (fun x => h9 x.2) (fun x => by omega))] at st
            obtain ⟨M', g1, g2, g3⟩ := J105_0 hpl hr hT hA hM' hc' hk
            exact Or.inl ⟨_, M', st, g1, g2, g3⟩
          · rw [if_pos (Or.inr (by omega))] at st
            obtain ⟨M', g1, g2, g3⟩ := J105_no (x := 0) hpl hr hA m3 c2 hk
            exact Or.inr ⟨2, _, M', Or.inr rfl, st, g1, g2, g3⟩
      · rw [if_neg (show ¬ nI (tk N b i) = 3 from cl_ne (k := 3) h38 (by omega) h3)]
        unfold gX5_takeOperand_J48
        have e2 : ∀ A B : Option (Int32 × zM), (if nI (tk N b i) < 19 then A else if 25 < nI (tk N b i) then A else B) = if 19 ≤ tk N b i ∧ tk N b i ≤ 25 then B else A := fun A B => by
          rw [show (19 : Int32) = nI 19 by decide, show (25 : Int32) = nI 25 by decide]
          by_cases w : tk N b i < 19
          · rw [if_pos (show nI (tk N b i) < nI 19 from (nI_lt_iff (by omega) (by omega)).mpr w), if_neg (by omega)]
          · rw [if_neg (show ¬ nI (tk N b i) < nI 19 from fun x => w ((nI_lt_iff (by omega) (by omega)).mp x))]
            by_cases w2 : 25 < tk N b i
            · rw [if_pos (show nI 25 < nI (tk N b i) from (nI_lt_iff (by omega) (by omega)).mpr w2), if_neg (by omega)]
            · rw [if_neg (show ¬ nI 25 < nI (tk N b i) from fun x => w2 ((nI_lt_iff (by omega) (by omega)).mp x)), if_pos (by omega)]
        rw [k5, e2]
        by_cases h19 : 19 ≤ tk N b i ∧ tk N b i ≤ 25
        · rw [if_pos (Or.inr h19)] at st
          rw [if_pos h19]
          unfold gX5_takeOperand_J72
          rw [if_pos rfl, if_pos rfl, if_neg (by decide)]
          unfold gX5_takeOperand_J91
          rw [if_pos rfl]
          by_cases hk : kn < 64
          · rw [if_neg (by omega)] at st
            obtain ⟨M', g1, g2, g3⟩ := J105_0 hpl hr hT hA hM' hc' hk
            exact Or.inl ⟨_, M', st, g1, g2, g3⟩
          · rw [if_pos (Or.inr (by omega))] at st
            obtain ⟨M', g1, g2, g3⟩ := J105_no (x := 0) hpl hr hA m3 c2 hk
            exact Or.inr ⟨2, _, M', Or.inr rfl, st, g1, g2, g3⟩
        · rw [if_neg (by omega)] at st
          obtain ⟨M', g1, g2, g3⟩ := J72_0 (p := p) hA
          rw [if_neg h19, show gX5_takeOperand_J71 0 0 M = gX5_takeOperand_J72 0 0 0 M from rfl]
          exact Or.inr ⟨1, _, M', Or.inl rfl, st, g1, g2, g3⟩
/-! where an operator stands -/
theorem J135_c {p : Nat} {M : zM} {N z i kn op l : Nat} {b : Nat → Nat} {s : List (Nat × Nat)} {o : List (Int32 × Int32)} (hpl : zisPl p = true) (hr : M.2.2 47 3 = some p) (hT : cTk M N z b) (hA : cAtt M N b i) (h38 : tk N b i ≤ 38) (m1 : stkM M s) (m2 : ouM M p o) (m3 : M.1 (p + 14) 0 = nI kn) (m4 : M.1 47 11 = nI op) (hc : o.length + nzS s = kn ∧ kn ≤ 64 ∧ zeS s = op ∧ op ≤ 8 ∧ ∀ q ∈ s, q.2 ≤ 6) (hl : 1 ≤ l ∧ l ≤ 6) (hn : kn < 64) : ∃ M', gX5_takeOperator_J135 (nI l) M = some (1, M') ∧ cEM M' p N z b (i + 1) ((tk N b i, l) :: s, o, kn + 1, op, true, decide (tk N b i = 27 ∨ tk N b i = 26)) ∧ FL p M M' := by
  have hp := isPl_lt hpl
  obtain ⟨c1, c2, c3, c4, c5⟩ := hc
  have len := len_S s
  have k5 := hA.2.1
  unfold gX5_takeOperator_J135
  rw [zgP_some hr hpl, m3, nI_lit64, if_pos (by rw [nI_lt_iff (by omega) (by omega)]; exact hn), zgP_some hr hpl, zlet_eq, m3, nI_1]
  obtain ⟨M9, g1, g2, g3⟩ := c_putW (K := tk N b i) (l := l) (m1.mono (M' := zI M (p + 14) 0 (nI (kn + 1))) (zI_of (by omega)) (fun k => zI_of (by omega)) (fun k => zI_of (by omega))) (by omega) (by rw [zI_of (by omega), k5])
  rw [zcV_some g1, zlet_eq]
  have fin : ∀ pn : Bool, ∃ M', some ((1 : Int32), zI (zI M9 47 12 1) 47 13 (b2i pn)) = some (1, M') ∧ cEM M' p N z b (i + 1) ((tk N b i, l) :: s, o, kn + 1, op, true, pn) ∧ FL p M M' := fun pn => by
    have fr : ∀ a k, ¬ ((a = p + 14 ∧ k = 0) ∨ (a = 47 ∧ (k = 10 ∨ k = 12 ∨ k = 13)) ∨ a = 48 ∨ a = 49) → (zI (zI M9 47 12 1) 47 13 (b2i pn)).1 a k = M.1 a k := fun a k q => by rw [zI_of (by omega), zI_of (by omega), g3.2 _ _ (by omega), zI_of (by omega)]
    refine ⟨_, rfl, ⟨⟨hpl, by show M9.2.2 47 3 = _; rw [g3.1]; exact hr⟩, hT.mono (fun a k h1 h2 => fr a k (by omega)), by rw [fr _ _ (by omega)]; exact hA.1, ⟨g2.mono (by rw [zI_of (by omega), zI_of (by omega)]) (fun k => by rw [zI_of (by omega), zI_of (by omega)]) (fun k => by rw [zI_of (by omega), zI_of (by omega)]), m2.mono (fr _ _ (by omega)) (fun k => fr _ _ (by omega)) (fun k => fr _ _ (by omega)), ?_, by rw [fr _ _ (by omega)]; exact m4, ?_, zI_at⟩, ⟨?_, by omega, ?_, c4, fun q hq => ?_⟩⟩, g3.1, fun a k q => fr a k (by omega)⟩
    · rw [zI_of (by omega), zI_of (by omega), g3.2 _ _ (by omega), zI_at]
    · rw [zI_of (by omega), zI_at]; rfl
    · have : nzS ((tk N b i, l) :: s) = nzS s + (if l = 0 then 0 else 1) := rfl
      rw [this, if_neg (by omega)]; omega
    · have : zeS ((tk N b i, l) :: s) = zeS s + (if l = 0 then 1 else 0) := rfl
      rw [this, if_neg (by omega)]; omega
    · rcases List.mem_cons.mp hq with e | e
      · rw [e]; exact hl.2
      · exact c5 q e
  have k13 : (zI M9 47 12 1).1 47 5 = nI (tk N b i) := by rw [zI_of (by omega), g3.2 _ _ (by omega), zI_of (by omega), k5]
  rw [k13]
  by_cases h27 : tk N b i = 27
  · rw [if_pos (by rw [h27]; decide), zlet_eq, decide_eq_true (Or.inl h27)]
    exact fin true
  · rw [if_neg (show ¬ nI (tk N b i) = 27 from cl_ne (k := 27) h38 (by omega) h27)]
    by_cases h26 : tk N b i = 26
    · rw [if_pos (by rw [h26]; decide), zlet_eq, decide_eq_true (Or.inr h26)]
      exact fin true
    · rw [if_neg (show ¬ nI (tk N b i) = 26 from cl_ne (k := 26) h38 (by omega) h26), zlet_eq, decide_eq_false (by omega)]
      exact fin false
theorem J135_no {p : Nat} {M : zM} {N i kn : Nat} {b : Nat → Nat} {x : Int32} (hpl : zisPl p = true) (hr : M.2.2 47 3 = some p) (hA : cAtt M N b i) (m3 : M.1 (p + 14) 0 = nI kn) (h64 : kn ≤ 64) (hn : ¬ kn < 64) : ∃ M', gX5_takeOperator_J135 x M = some (0, M') ∧ cF M' N b 2 i ∧ FLf p M M' := by
  obtain ⟨M', g1, g2, g3⟩ := c_fails 2 hA
  unfold gX5_takeOperator_J135
  rw [zgP_some hr hpl, m3, nI_lit64, if_neg (fun w => by rw [nI_lt_iff (by omega) (by omega)] at w; omega), zcIM_some (show gX5_fails 2 M = _ from g1), zb0]
  exact ⟨M', rfl, g2, fl_fails g3⟩
theorem ze_pos {s : List (Nat × Nat)} (h : 0 < zeS s) : ∃ q r, rlD 1 s = q :: r ∧ q.2 = 0 := by
  induction s with
  | nil => exact absurd h (by decide)
  | cons q s ih =>
    have e1 : rlD 1 (q :: s) = if 1 ≤ q.2 then rlD 1 s else q :: s := rfl
    have e4 : zeS (q :: s) = zeS s + (if q.2 = 0 then 1 else 0) := rfl
    rw [e1]
    by_cases w : 1 ≤ q.2
    · rw [if_pos w]
      rw [e4, if_neg (by omega)] at h
      exact ih h
    · rw [if_neg w]
      exact ⟨q, s, rfl, by omega⟩
theorem rlK_len (s : List (Nat × Nat)) : (rlK s).length = s.length := List.length_map ..
theorem c_operator {p : Nat} {M : zM} {N z i kn op : Nat} {b : Nat → Nat} {s : List (Nat × Nat)} {o : List (Int32 × Int32)} {pn : Bool} (ht : tB N b) (hpl : zisPl p = true) (hr : M.2.2 47 3 = some p) (hT : cTk M N z b) (hA : cAtt M N b i) (hM : cMs M p (s, o, kn, op, false, pn)) (hc : ci (s, o, kn, op, false, pn)) (h49 : ¬ (tk N b i = 4 ∧ op = 0)) : cOut p N z b i (s, o, kn, op, false, pn) M (gX5_takeOperator M) := by
  have hp := isPl_lt hpl
  have h38 := tk_38 ht i
  have sl := s_lt hc
  obtain ⟨m1, m2, m3, m4, m5, m6⟩ := hM
  obtain ⟨c1, c2, c3, c4, c5⟩ := hc
  have len := len_S s
  have k5 := hA.2.1
  have keep : ∀ {M3 : zM}, FRl p M M3 → M3.2.2 47 3 = some p ∧ cTk M3 N z b ∧ cAtt M3 N b i ∧ M3.1 (p + 14) 0 = nI kn ∧ M3.1 47 11 = nI op := fun {M3} hf => ⟨by rw [hf.1]; exact hr, hT.fl hp hf.L, hA.mono (fun k q1 q2 => hf.2 _ _ (by omega)), by rw [hf.2 _ _ (by omega)]; exact m3, by rw [hf.2 _ _ (by omega)]; exact m4⟩
  have st : cstep (tk N b i) (tv N b i) (s, o, kn, op, false, pn) = if tk N b i = 6 ∧ 0 < op then (0, ((rlD 1 s).tail, o ++ rlK (rlT 1 s), kn, op - 1, false, pn)) else if tk N b i = 28 ∨ lev (tk N b i) = 0 then (1, (s, o, kn, op, false, pn)) else if lev (tk N b i) = 4 ∧ topL (rlD 5 s) = 4 then (1, (s, o, kn, op, false, pn)) else if kn < 64 then (0, ((tk N b i, lev (tk N b i)) :: rlD (rlL (tk N b i)) s, o ++ rlK (rlT (rlL (tk N b i)) s), kn + 1, op, true, decide (tk N b i = 27 ∨ tk N b i = 26))) else (2, (s, o, kn, op, false, pn)) := by
    unfold cstep
    dsimp only
    rw [if_neg (show ¬ (false = true) by decide), if_neg h49]
  unfold cOut
  by_cases h6 : tk N b i = 6 ∧ 0 < op
  · rw [if_pos h6] at st
    unfold gX5_takeOperator
    rw [k5, if_pos (by rw [h6.1]; decide), m4, if_neg (show ¬ nI op ≤ 0 from nI_ge (a := 0) h6.2 (by omega))]
    obtain ⟨M3, g1, g2, g3, g4⟩ := c_release (l := 1) hpl (by omega) (by omega) sl.2 c5 (by omega) hr m1 m2
    obtain ⟨q, r, e1, e2⟩ := ze_pos (s := s) (by omega)
    obtain ⟨k1, k2, k3, k4, k6⟩ := keep g4
    have cn := rl_cnt (l := 1) (by omega) s
    rw [e1] at g2 cn st
    have e3 : nzS (q :: r) = nzS r + (if q.2 = 0 then 0 else 1) := rfl
    have e4 : zeS (q :: r) = zeS r + (if q.2 = 0 then 1 else 0) := rfl
    rw [e3, e4, if_pos e2, if_pos e2] at cn
    have pp := stkM_pop g2
    rw [zcV_some (show gX5_release 1 M = _ from g1), zlet_eq, zlet_eq, k6]
    have ed : ∀ v : Int32, (zI M3 47 11 v).1 47 10 = nI (r.length + 1) := fun v => by rw [zI_of (by omega), g2.1, List.length_cons]
    rw [ed, nI_dec, show (if (0 : Int32) < nI r.length then nI r.length else 0) = nI r.length from by
      by_cases w : (0 : Int32) < nI r.length
      · rw [if_pos w]
      · rw [if_neg w]
        have : r.length = 0 := by
          rcases Nat.eq_zero_or_pos r.length with z | z
          · exact z
          · exact absurd ((nI_lt_iff (a := 0) (by omega) (by have := congrArg List.length e1; have := len_S r; omega)).mpr z) w
        rw [this]; rfl, show nI op - 1 = nI (op - 1) from by rw [show op = (op - 1) + 1 by omega, nI_dec]; rfl]
    have fr : ∀ a k, ¬ (a = 47 ∧ (k = 10 ∨ k = 11)) → (zI (zI M3 47 11 (nI (op - 1))) 47 10 (nI r.length)).1 a k = M3.1 a k := fun a k w => by rw [zI_of (by omega), zI_of (by omega)]
    refine Or.inl ⟨_, _, st, rfl, ⟨⟨hpl, k1⟩, k2.mono (fun a k z1 z2 => fr a k (by omega)), by rw [fr _ _ (by omega)]; exact k3.1, ⟨?_, g3.mono (fr _ _ (by omega)) (fun k => fr _ _ (by omega)) (fun k => fr _ _ (by omega)), by rw [fr _ _ (by omega)]; exact k4, ?_, ?_, ?_⟩, ⟨?_, c2, ?_, by omega, fun x hx => ?_⟩⟩, g4.1, fun a k w => by rw [fr a k (by omega), g4.L.2 a k w]⟩
    · exact pp.1.mono (by rw [zI_at, zI_at]) (fun k => by rw [fr _ _ (by omega), zI_of (by omega)]) (fun k => by rw [fr _ _ (by omega), zI_of (by omega)])
    · rw [zI_of (by omega), zI_at]
    · rw [fr _ _ (by omega), g4.2 _ _ (by omega)]; exact m5
    · rw [fr _ _ (by omega), g4.2 _ _ (by omega)]; exact m6
    · rw [List.length_append, rlK_len]; show _ + nzS r = _; omega
    · show zeS r = op - 1; omega
    · exact c5 x (rlD_mem (l := 1) (by rw [e1]; exact List.mem_cons_of_mem _ hx))
  · rw [if_neg h6] at st
    have e0 : gX5_takeOperator M = gX5_takeOperator_J47 M := by
      unfold gX5_takeOperator
      rw [k5]
      by_cases w : tk N b i = 6
      · rw [if_pos (by rw [w]; decide), m4, if_pos (by rw [show op = 0 by omega]; decide)]
      · rw [if_neg (show ¬ nI (tk N b i) = 6 from cl_ne (k := 6) h38 (by omega) w)]
    rw [e0]
    have bad : ∀ c', cstep (tk N b i) (tv N b i) (s, o, kn, op, false, pn) = (1, c') → ∀ M3, FL p M M3 → cAtt M3 N b i → ∀ r, r = zcIM (gX5_fails 1 M3) (fun v30_ M31_ => zg (zbit v30_) (some (v30_, M31_))) → (∃ c' M', cstep (tk N b i) (tv N b i) (s, o, kn, op, false, pn) = (0, c') ∧ r = some (1, M') ∧ cEM M' p N z b (i + 1) c' ∧ FL p M M') ∨ (∃ f c' M', (f = 1 ∨ f = 2) ∧ cstep (tk N b i) (tv N b i) (s, o, kn, op, false, pn) = (f, c') ∧ r = some (0, M') ∧ cF M' N b f i ∧ FLf p M M') := fun c' hs M3 hf hA3 r hr' => by
      obtain ⟨M', g1, g2, g3⟩ := c_fails 1 hA3
      rw [zcIM_some (show gX5_fails 1 M3 = _ from g1), zb0] at hr'
      exact Or.inr ⟨1, c', M', Or.inl rfl, hs, hr', g2, hf.trf (fl_fails g3)⟩
    unfold gX5_takeOperator_J47
    rw [k5]
    by_cases h28 : tk N b i = 28
    · rw [if_pos (Or.inl h28)] at st
      rw [if_pos (by rw [h28]; decide)]
      unfold gX5_takeOperator_J67
      rw [if_neg (by decide)]
      exact bad _ st M FL.rf hA _ rfl
    · rw [if_neg (show ¬ nI (tk N b i) = 28 from cl_ne (k := 28) h38 (by omega) h28), zcI_some (c_level h38)]
      have l6 := (lvT_at h38).2.2.2.2.2.1
      unfold gX5_takeOperator_J67
      by_cases h0 : lev (tk N b i) = 0
      · rw [if_pos (Or.inr h0)] at st
        rw [h0, if_neg (by decide)]
        exact bad _ st M FL.rf hA _ rfl
      · rw [if_neg (by omega)] at st
        rw [if_pos (show (1 : Int32) ≤ nI (lev (tk N b i)) from nI_le (a := 1) (by omega) (by omega))]
        -- behind the release
        have go : ∀ l' M3, rlL (tk N b i) = l' → stkM M3 (rlD l' s) → ouM M3 p (o ++ rlK (rlT l' s)) → FRl p M M3 → ¬ (lev (tk N b i) = 4 ∧ topL (rlD 5 s) = 4) → (∃ c' M', cstep (tk N b i) (tv N b i) (s, o, kn, op, false, pn) = (0, c') ∧ gX5_takeOperator_J135 (nI (lev (tk N b i))) M3 = some (1, M') ∧ cEM M' p N z b (i + 1) c' ∧ FL p M M') ∨ (∃ f c' M', (f = 1 ∨ f = 2) ∧ cstep (tk N b i) (tv N b i) (s, o, kn, op, false, pn) = (f, c') ∧ gX5_takeOperator_J135 (nI (lev (tk N b i))) M3 = some (0, M') ∧ cF M' N b f i ∧ FLf p M M') := fun l' M3 hl' g2 g3 g4 h44 => by
          obtain ⟨k1, k2, k3, k4, k6⟩ := keep g4
          have l1 : 1 ≤ l' := by rw [← hl']; unfold rlL; split <;> omega
          have cn := rl_cnt l1 s
          rw [if_neg h44, hl'] at st
          by_cases hk : kn < 64
          · rw [if_pos hk] at st
            obtain ⟨M', q1, q2, q3⟩ := J135_c (l := lev (tk N b i)) hpl k1 k2 k3 h38 g2 g3 k4 k6 ⟨by rw [List.length_append, rlK_len]; omega, c2, by omega, c4, fun q hq => c5 q (rlD_mem hq)⟩ ⟨by omega, l6⟩ hk
            exact Or.inl ⟨_, M', st, q1, q2, g4.L.tr q3⟩
          · rw [if_neg hk] at st
            obtain ⟨M', q1, q2, q3⟩ := J135_no (x := nI (lev (tk N b i))) hpl k1 k3 k4 c2 hk
            exact Or.inr ⟨2, _, M', Or.inr rfl, st, q1, q2, g4.L.trf q3⟩
        by_cases h4 : lev (tk N b i) = 4
        · rw [if_pos (show nI (lev (tk N b i)) = 4 by rw [h4]; decide)]
          unfold gX5_takeOperator_J89
          rw [if_neg (by decide)]
          unfold gX5_takeOperator_J100
          obtain ⟨M3, g1, g2, g3, g4⟩ := c_release (l := 5) hpl (by omega) (by omega) sl.2 c5 (by omega) hr m1 m2
          obtain ⟨k1, k2, k3, k4, k6⟩ := keep g4
          have e5 : rlL (tk N b i) = 5 := by unfold rlL; rw [if_pos h4]
          rw [zcV_some (show gX5_release 5 M = _ from g1), if_neg (by decide), g2.1]
          cases hd : rlD 5 s with
          | nil =>
            rw [if_pos (show nI ([] : List (Nat × Nat)).length ≤ 0 by decide)]
            exact go 5 M3 e5 g2 g3 g4 (fun w => by rw [hd] at w; exact absurd w.2 (by decide))
          | cons q r =>
            have g2' := g2
            rw [hd] at g2'
            have pp := stkM_pop g2'
            have cn := rl_cnt (l := 5) (by omega) s
            rw [hd] at cn
            have lr := len_S (q :: r)
            rw [List.length_cons] at lr
            have q6 : q.2 ≤ 6 := c5 q (rlD_mem (l := 5) (by rw [hd]; exact List.mem_cons_self))
            rw [List.length_cons, if_neg (show ¬ nI (r.length + 1) ≤ 0 from nI_ge (a := 0) (by omega) (by omega)), nI_dec, zg_true (zok_nI (show r.length < 72 by omega) (by omega)), nI_cl (by omega), pp.2.2]
            by_cases hq : q.2 = 4
            · rw [if_pos (show nI q.2 = 4 by rw [hq]; decide)]
              rw [if_pos ⟨h4, by rw [hd]; exact hq⟩] at st
              exact bad _ st M3 g4.L k3 _ rfl
            · rw [if_neg (show ¬ nI q.2 = 4 from cl_ne (k := 4) (by omega) (by omega) hq)]
              exact go 5 M3 e5 g2 g3 g4 (fun w => by rw [hd] at w; exact hq w.2)
        · rw [if_neg (show ¬ nI (lev (tk N b i)) = 4 from cl_ne (k := 4) (by omega) (by omega) h4)]
          unfold gX5_takeOperator_J89
          rw [if_pos rfl]
          unfold gX5_takeOperator_J100
          obtain ⟨M3, g1, g2, g3, g4⟩ := c_release (l := lev (tk N b i)) hpl (by omega) (by omega) sl.2 c5 (by omega) hr m1 m2
          rw [zcV_some g1, if_pos rfl]
          exact go (lev (tk N b i)) M3 (by unfold rlL; rw [if_neg h4]) g2 g3 g4 (fun w => h4 w.1)
