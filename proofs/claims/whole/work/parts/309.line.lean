/-! ===== how the reference begins a line ===== -/
def rTail (x1 : Int32) (M7_ : zM) : Option zM :=
  (if x1 = 0 then zcI (gX10_fresher 0 M7_) (fun v9_ => zcI (gX10_fresher 0 M7_) (fun v11_ => zcIM (gX10_fresh 101 12 6 v11_ M7_) (fun v13_ M14_ => zg (zok (6 + v9_) 12) (zlet (zI M14_ 101 ((6 + v9_) : Int32).toNatClampNeg v13_) (fun M17_ => zcIM (gX10_numeral 0 99 M17_) (fun v19_ M20_ => zg (zok (6 + v9_) 12) (zlet (zI M20_ 102 ((6 + v9_) : Int32).toNatClampNeg v19_) (fun M23_ => zcIM (gX10_numeral 0 99 M23_) (fun v25_ M26_ => zg (zok (6 + v9_) 12) (zlet (zI M26_ 103 ((6 + v9_) : Int32).toNatClampNeg v25_) (fun M29_ => zcIM (gX10_numeral 1 9 M29_) (fun v31_ M32_ => zg (zok (6 + v9_) 12) (zlet (zI M32_ 104 ((6 + v9_) : Int32).toNatClampNeg v31_) (fun M35_ => zcI (gX10_fresher 0 M35_) (fun v37_ => zcV (gX10_reads 0 (v37_ + 1) M35_) (fun M39_ => gX10_line_J458 M39_))))))))))))))))
  else if x1 = 1 then zcI (gX10_fresher 1 M7_) (fun v49_ => zcI (gX10_fresher 1 M7_) (fun v51_ => zcIM (gX10_fresh 105 16 8 v51_ M7_) (fun v53_ M54_ => zg (zok (8 + v49_) 16) (zlet (zI M54_ 105 ((8 + v49_) : Int32).toNatClampNeg v53_) (fun M57_ => zcIM (gX10_numeral 1 99 M57_) (fun v59_ M60_ => zg (zok (8 + v49_) 16) (zlet (zI M60_ 106 ((8 + v49_) : Int32).toNatClampNeg v59_) (fun M63_ => zcIM (gX10_numeral 1 6 M63_) (fun v65_ M66_ => zg (zok (8 + v49_) 16) (zlet (zI M66_ 107 ((8 + v49_) : Int32).toNatClampNeg v65_) (fun M69_ => zcIM (gX10_numeral 0 99 M69_) (fun v71_ M72_ => zg (zok (8 + v49_) 16) (zlet (zI M72_ 108 ((8 + v49_) : Int32).toNatClampNeg v71_) (fun M75_ => zcI (gX10_fresher 1 M75_) (fun v77_ => zcV (gX10_reads 1 (v77_ + 1) M75_) (fun M79_ => gX10_line_J458 M79_))))))))))))))))
  else if x1 = 2 then zcI (gX10_fresher 2 M7_) (fun v81_ => zcIM (gX10_manAhead M7_) (fun v83_ M84_ => zg (zok (10 + v81_) 20) (zlet (zI M84_ 109 ((10 + v81_) : Int32).toNatClampNeg v83_) (fun M87_ => zcIM (gX10_numeral 0 99 M87_) (fun v89_ M90_ => zg (zok (10 + v81_) 20) (zlet (zI M90_ 110 ((10 + v81_) : Int32).toNatClampNeg v89_) (fun M93_ => zcIM (gX10_numeral 1 99 M93_) (fun v95_ M96_ => zg (zok (10 + v81_) 20) (zlet (zI M96_ 111 ((10 + v81_) : Int32).toNatClampNeg v95_) (fun M99_ => zcI (gX10_fresher 2 M99_) (fun v101_ => zcV (gX10_reads 2 (v101_ + 1) M99_) (fun M103_ => gX10_line_J458 M103_))))))))))))
  else if x1 = 3 then zcIM (gX10_numeral 0 999 M7_) (fun v105_ M106_ => zcV (gX10_reads 3 v105_ M106_) (fun M108_ => gX10_line_J458 M108_))
  else if x1 = 4 then zcIM (gX10_numeral 0 9 M7_) (fun v110_ M111_ => zcV (gX10_reads 4 v110_ M111_) (fun M113_ => gX10_line_J458 M113_))
  else if x1 = 5 then zcIM (gX10_numeral 0 100 M7_) (fun v115_ M116_ => zcV (gX10_reads 5 v115_ M116_) (fun M118_ => gX10_line_J458 M118_))
  else if x1 = 6 then zcIM (gX10_numeral 0 100 M7_) (fun v120_ M121_ => zcV (gX10_reads 6 v120_ M121_) (fun M123_ => gX10_line_J458 M123_))
  else if x1 = 7 then zcIM (gX10_numeral 0 99999 M7_) (fun v125_ M126_ => zcV (gX10_reads 7 v125_ M126_) (fun M128_ => gX10_line_J458 M128_))
  else zcV (gX10_lawLine M7_) (fun M130_ => gX10_line_J458 M130_))
theorem J71_eq {x1 : Int32} {M : zM} (h : M.1 98 26 = 0) : gX10_line_J71 x1 M = zcV (gX10_token (zI M 98 19 ((M.1 98 19) ||| ((1 : Int32) <<< ((x1 : Int32) &&& 31))))) (fun M7_ => rTail x1 M7_) := by
  unfold gX10_line_J71
  rw [if_pos h]
  rfl
theorem J71_F {x1 : Int32} {M : zM} (h : ¬ M.1 98 26 = 0) : gX10_line_J71 x1 M = some M := by
  unfold gX10_line_J71
  rw [if_neg h]
def FJ (M M' : zM) : Prop := M'.2 = M.2 ∧ ∀ a i, ¬ (a = 98 ∧ (i = 19 ∨ (22 ≤ i ∧ i ≤ 25))) → M'.1 a i = M.1 a i
theorem FJ.R {M M' : zM} (h : FJ M M') : FrR M M' := ⟨h.1, fun a i q => h.2 a i (fun w => q (by unfold FRc; omega))⟩
theorem m_J71 {M : zM} {N j w : Nat} {b : Nat → Nat} (ht : tB N b) (hR : rX M N b j) : ∃ M7, gX10_line_J71 (nI w) M = rTail (nI w) M7 ∧ rX M7 N b (j + 1) ∧ M7.1 98 19 = ((M.1 98 19) ||| ((1 : Int32) <<< ((nI w : Int32) &&& 31))) ∧ FJ M M7 := by
  rw [J71_eq hR.1]
  have R1 : rX (zI M 98 19 ((M.1 98 19) ||| ((1 : Int32) <<< ((nI w : Int32) &&& 31)))) N b j := ⟨by rw [zI_of (by omega)]; exact hR.1, hR.2.mono (zI_of (by omega)) (fun i _ _ => zI_of (by omega)) (fun i => zI_of (by omega))⟩
  obtain ⟨M7, g1, g2, g3⟩ := m_tokX ht R1
  refine ⟨M7, by rw [zcV_some g1], g2, by rw [g3.2 _ _ (by omega), zI_at], g3.1, fun a i q => by rw [g3.2 a i (by omega), zI_of (by omega)]⟩
theorem lw_all : (List.range 39).all (fun K => decide ((7 ≤ K ∧ K ≤ 28 ∧ rVa K ≤ 8) ↔ (7 ≤ K ∧ K ≤ 15)) && (!(decide (7 ≤ K ∧ K ≤ 15)) || decide (rVa K = nI (K - 7)))) = true := by decide +kernel
theorem lw_at {K : Nat} (hK : K ≤ 38) : ((7 ≤ K ∧ K ≤ 28 ∧ rVa K ≤ 8) ↔ (7 ≤ K ∧ K ≤ 15)) ∧ (7 ≤ K ∧ K ≤ 15 → rVa K = nI (K - 7)) := by
  have a := List.all_eq_true.mp lw_all K (List.mem_range.mpr (by omega))
  rw [Bool.and_eq_true] at a
  refine ⟨of_decide_eq_true a.1, fun h => ?_⟩
  have c := a.2
  rw [decide_eq_true h, Bool.not_true, Bool.false_or] at c
  exact of_decide_eq_true c
theorem m_line_bad {M : zM} {N j : Nat} {b : Nat → Nat} (ht : tB N b) (hR : rX M N b j) (hK : ¬ (7 ≤ tk N b j ∧ tk N b j ≤ 15)) : ∃ M', gX10_line M = some M' ∧ rF M' N b 1 j ∧ FN M M' := by
  have h38 := tk_38 ht j
  obtain ⟨M', g1, g2, g3⟩ := m_wrongX 1 hR
  have e : gX10_line_J16 M = some M' := by
    unfold gX10_line_J16
    rw [zcV_some (show gX10_wrong 1 M = _ from g1)]
  obtain ⟨t1, t2, t3, t4⟩ := hR.2.2.2.2
  refine ⟨M', ?_, g2, g3⟩
  unfold gX10_line
  rw [t1, e]
  by_cases w7 : 7 ≤ tk N b j ∧ tk N b j ≤ 28
  · rw [if_pos ((rSo_at h38).1.mpr w7), t4 (by omega), if_neg (fun w => hK ((lw_at h38).1.mp ⟨w7.1, w7.2, w⟩))]
  · rw [if_neg (fun w => w7 ((rSo_at h38).1.mp w))]
/-- how the reference goes on by the word w -/
theorem m_line_go {M : zM} {N j w : Nat} {b : Nat → Nat} (ht : tB N b) (hR : rX M N b j) (hw : w ≤ 8) (hK : tk N b j = 7 + w) : gX10_line M = zcI (gX10_isFull (nI w) M) (fun v3_ => (if v3_ = 0 then (if (nI w) < 3 then gX10_line_J71 (nI w) M
  else (if 7 < (nI w) then gX10_line_J71 (nI w) M
  else (if ((((M.1 98 19) : Int32) >>> (((nI w) : Int32) &&& 31)) &&& 1) = 1 then zcV (gX10_wrong 3 M) (fun M132_ => gX10_line_J71 (nI w) M132_)
  else gX10_line_J71 (nI w) M)))
  else zcV (gX10_wrong 2 M) (fun M134_ => gX10_line_J71 (nI w) M134_))) := by
  have h38 := tk_38 ht j
  obtain ⟨t1, t2, t3, t4⟩ := hR.2.2.2.2
  have e := (lw_at h38).2 (by omega)
  have ev : M.1 98 25 = nI w := by rw [t4 (by omega), e, show tk N b j - 7 = w by omega]
  unfold gX10_line
  rw [t1, if_pos ((rSo_at h38).1.mpr (by omega)), ev, if_pos (show nI w ≤ 8 from nI_le (b := 8) hw (by omega))]
theorem m_full {M : zM} {w : Nat} (h0 : w = 0 → ∃ n, n < 100 ∧ M.1 100 9 = nI n) (h1 : w = 1 → ∃ n, n < 100 ∧ M.1 100 10 = nI n) (h2 : w = 2 → ∃ n, n < 100 ∧ M.1 100 11 = nI n) (hw : w ≤ 8) : gX10_isFull (nI w) M = some (if (w = 0 ∧ M.1 100 9 = nI 6) ∨ (w = 1 ∧ M.1 100 10 = nI 8) ∨ (w = 2 ∧ M.1 100 11 = nI 10) then 1 else 0) := by
  have f0 : gX10_fresher 0 M = some (M.1 100 9) := m_fresher (w := 0) (by omega)
  have f1 : gX10_fresher 1 M = some (M.1 100 10) := m_fresher (w := 1) (by omega)
  have f2 : gX10_fresher 2 M = some (M.1 100 11) := m_fresher (w := 2) (by omega)
  have n0 : ∀ k : Nat, k < 9 → w ≠ k → ¬ nI w = nI k := fun k hk e => by rw [nI_eqs (by omega) (by omega)]; exact e
  unfold gX10_isFull gX10_isFull_J14 gX10_isFull_J29
  by_cases e0 : w = 0
  · subst e0
    rw [if_pos (show nI 0 = 0 from rfl), zcI_some f0, if_neg (show ¬ nI 0 = 1 by decide), if_neg (show ¬ nI 0 = 2 by decide)]
    by_cases q : M.1 100 9 = nI 6
    · rw [if_pos (show M.1 100 9 = 6 from q), if_pos (Or.inl ⟨rfl, q⟩)]
    · rw [if_neg (show ¬ M.1 100 9 = 6 from q), if_neg (fun z => by rcases z with z | z | z; exact q z.2; omega; omega)]
  · rw [if_neg (show ¬ nI w = 0 from n0 0 (by omega) e0)]
    by_cases e1 : w = 1
    · subst e1
      rw [if_pos (show nI 1 = 1 from rfl), zcI_some f1, if_neg (show ¬ nI 1 = 2 by decide)]
      by_cases q : M.1 100 10 = nI 8
      · rw [if_pos (show M.1 100 10 = 8 from q), if_pos (Or.inr (Or.inl ⟨rfl, q⟩))]
      · rw [if_neg (show ¬ M.1 100 10 = 8 from q), if_neg (fun z => by rcases z with z | z | z; omega; exact q z.2; omega)]
    · rw [if_neg (show ¬ nI w = 1 from n0 1 (by omega) e1)]
      by_cases e2 : w = 2
      · subst e2
        rw [if_pos (show nI 2 = 2 from rfl), zcI_some f2]
        by_cases q : M.1 100 11 = nI 10
        · rw [if_pos (show M.1 100 11 = 10 from q), if_pos (Or.inr (Or.inr ⟨rfl, q⟩))]
        · rw [if_neg (show ¬ M.1 100 11 = 10 from q), if_neg (fun z => by rcases z with z | z | z; omega; omega; exact q z.2)]
      · rw [if_neg (show ¬ nI w = 2 from n0 2 (by omega) e2), if_neg (by omega)]
theorem m_full_no {M : zM} {N j w : Nat} {b : Nat → Nat} (ht : tB N b) (hR : rX M N b j) (hw : w ≤ 8) (hK : tk N b j = 7 + w) (hf : gX10_isFull (nI w) M = some 1) : ∃ M', gX10_line M = some M' ∧ rF M' N b 2 j ∧ FN M M' := by
  obtain ⟨M', g1, g2, g3⟩ := m_wrongX 2 hR
  rw [m_line_go ht hR hw hK, zcI_some hf, if_neg (by decide), zcV_some (show gX10_wrong 2 M = _ from g1), J71_F (rF_n0 g2 ⟨by omega, by omega⟩)]
  exact ⟨M', rfl, g2, g3⟩
/-- MAN, THING, LOOK, LAW -/
theorem m_line_01 {M : zM} {N j w : Nat} {b : Nat → Nat} (ht : tB N b) (hR : rX M N b j) (hw : w ≤ 2 ∨ w = 8) (hK : tk N b j = 7 + w) (hf : gX10_isFull (nI w) M = some 0) : gX10_line M = gX10_line_J71 (nI w) M := by
  rw [m_line_go ht hR (by omega) hK, zcI_some hf, if_pos rfl]
  rcases hw with hw | hw
  · rw [if_pos (show nI w < 3 from (nI_lt_iff (b := 3) (by omega) (by omega)).mpr (by omega))]
  · subst hw; rfl
/-- what a line leaves -/
def jOK (p N z : Nat) (b : Nat → Nat) (Mc Mm : zM) (j : Nat) (rc : Option (Int32 × zM)) (rm : Option zM) : Prop := ∃ (n T L : Nat) (P : AV) (sd : Nat → Bool) (LW : LWr) (out : List (Int32 × Int32)) (j' : Nat), j < j' ∧ j' ≤ z ∧ aI n T L P LW out ∧ (∃ Mc', rc = some (1, Mc') ∧ cX Mc' p N z b j' ∧ cPs Mc' p n T L P sd LW out ∧ FrC p Mc Mc' ∧ Mc'.1 47 0 = Mc.1 47 0 ∧ Mc'.1 47 1 = Mc.1 47 1) ∧ ∃ Mm', rm = some Mm' ∧ rX Mm' N b j' ∧ mPs Mm' n T L P sd LW out ∧ lnX Mm Mm' ∧ FrR Mm Mm'
theorem mTd.or {M M' : zM} {sd : Nat → Bool} {LW : LWr} {w : Nat} (h : mTd M sd LW) (hw : w ≤ 2 ∨ w = 8) (he : M'.1 98 19 = ((M.1 98 19) ||| ((1 : Int32) <<< ((nI w : Int32) &&& 31)))) : mTd M' sd LW := by
  refine ⟨fun k hk => ?_, fun j hj => ?_⟩
  · rw [he, bit_or (by omega) (by omega), h.1 k hk, decide_eq_false (by omega), Bool.or_false]
  · rw [he, bit_or (by omega) (by omega), h.2 j hj, decide_eq_false (by omega), Bool.or_false]
