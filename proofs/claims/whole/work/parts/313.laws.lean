/-! ===== lines: a law ===== -/
theorem lk_all : (List.range 39).all (fun K => decide ((nI K - 16 < 0) ↔ K < 16) && (decide (K < 16) || (decide (nI K - 16 = nI (K - 16)) && decide (nI K - 16 < 3 ↔ K < 19))) && decide ((7 ≤ K ∧ K ≤ 28 ∧ ¬ rVa K < 9 ∧ rVa K ≤ 11) ↔ (16 ≤ K ∧ K ≤ 18)) && (!decide (16 ≤ K ∧ K ≤ 18) || decide (rVa K - 9 = nI (K - 16)))) = true := by decide +kernel
theorem lk_at {K : Nat} (hK : K ≤ 38) : ((nI K - 16 < 0) ↔ K < 16) ∧ (16 ≤ K → nI K - 16 = nI (K - 16) ∧ (nI K - 16 < 3 ↔ K < 19)) ∧ ((7 ≤ K ∧ K ≤ 28 ∧ ¬ rVa K < 9 ∧ rVa K ≤ 11) ↔ (16 ≤ K ∧ K ≤ 18)) ∧ (16 ≤ K ∧ K ≤ 18 → rVa K - 9 = nI (K - 16)) := by
  have a := List.all_eq_true.mp lk_all K (List.mem_range.mpr (by omega))
  rw [Bool.and_eq_true, Bool.and_eq_true, Bool.and_eq_true] at a
  obtain ⟨⟨⟨a1, a2⟩, a3⟩, a4⟩ := a
  refine ⟨of_decide_eq_true a1, fun h => ?_, of_decide_eq_true a3, fun h => ?_⟩
  · rw [decide_eq_false (show ¬ K < 16 by omega), Bool.false_or, Bool.and_eq_true] at a2
    exact ⟨of_decide_eq_true a2.1, of_decide_eq_true a2.2⟩
  · rw [decide_eq_true h, Bool.not_true, Bool.false_or] at a4
    exact of_decide_eq_true a4
theorem J65_F {x : Int32} {M : zM} (h : ¬ M.1 98 26 = 0) : gX10_lawLine_J65 x M = some M := by unfold gX10_lawLine_J65; rw [if_neg h]
theorem rt_law {M7 : zM} : rTail (nI 8) M7 = zcV (gX10_lawLine M7) (fun M130_ => gX10_line_J458 M130_) := rfl
theorem getD_app_r {out c : List (Int32 × Int32)} {k : Nat} : (out ++ c).getD (out.length + k) (0, 0) = c.getD k (0, 0) := by
  rw [List.getD_eq_getElem?_getD, List.getElem?_append_right (by omega), show out.length + k - out.length = k by omega, ← List.getD_eq_getElem?_getD]
/-- class and reference behind the law's word -/
theorem jLw {Mc Mm : zM} {p N z i law : Nat} {b : Nat → Nat} {out : List (Int32 × Int32)} (hTX : TX N z b) (hl : law < 3) (hc : cEM Mc p N z b i ([], out, out.length, 0, true, true)) (hS : rS Mm N b i out out.length 0) (hi : i ≤ z) :
    ∃ M12, gGE 200 0 Mm = some M12 ∧ FE Mm M12 ∧
    ((∃ f jf, fOk f ∧ jf ≤ z ∧ (∃ Mc', zfix zFu (gX5_readLaw_L82 (nI law) p) (0, Mc) = some (0, Mc') ∧ cF Mc' N b f jf ∧ FLf p Mc Mc') ∧ rF M12 N b f jf) ∨
     (∃ jf c, jf ≤ z ∧ tk N b jf ≠ 4 ∧ (∃ Mc', zfix zFu (gX5_readLaw_L82 (nI law) p) (0, Mc) = some (0, Mc') ∧ cF Mc' N b 1 jf ∧ FLf p Mc Mc') ∧ rS M12 N b jf (out ++ c) (out.length + c.length) 0) ∨
     (∃ jf c, jf ≤ z ∧ i < jf ∧ tk N b jf = 4 ∧ wfc c ∧ (∃ Mc', zfix zFu (gX5_readLaw_L82 (nI law) p) (0, Mc) = some (1, Mc') ∧ cX Mc' p N z b (jf + 1) ∧ Mc'.1 (p + 16) law = nI (out.length + c.length) ∧ ouM Mc' p (out ++ c) ∧ Mc'.1 (p + 14) 0 = nI (out.length + c.length) ∧ FLd p law Mc Mc') ∧ rS M12 N b jf (out ++ c) (out.length + c.length) 0)) := by
  have ht := hTX.1
  have hz := hTX.2.1
  obtain ⟨M12, g1, g2, g3⟩ := EP_all ht hTX.2.2 hz 200 0 (by omega) Mm i out out.length 0 hS hi (by omega)
  refine ⟨M12, g1, g2, ?_⟩
  rcases g3 with ⟨f, jf, d1, d2, d3⟩ | ⟨jf, c, d1, d2, d3, d4, d5⟩
  · left
    obtain ⟨c', hr⟩ := d3.2.2 [] true (by decide) (by unfold pnOk; rw [if_pos (by decide)])
    have hij := d3.1
    obtain ⟨k1, k2⟩ := c_crun ht hz hl _ _ c' i jf 0 (zFu - (jf - i + 1)) f Mc hc (by omega) hr d1
    obtain ⟨Mc', q1, q2, q3⟩ := k2 d3.2.1
    refine ⟨f, jf, by unfold fOk; have := d3.2.1; omega, d1, ⟨Mc', ?_, q2, q3⟩, d2⟩
    rw [← q1, show zFu - (jf - i + 1) + (jf - i + 1) = zFu by unfold zFu; omega, nI_0]
  · right
    obtain ⟨P, o', pn', e1, e2, e3, e4⟩ := d3.2 [] true (by decide) (by unfold pnOk; rw [if_pos (by decide)])
    have hij := d3.1
    rw [List.append_nil] at e1
    by_cases h4 : tk N b jf = 4
    · right
      obtain ⟨k1, k2⟩ := c_crun ht hz hl _ _ _ i jf 0 (zFu - (jf - i)) 0 Mc hc (by omega) e1 d1
      obtain ⟨M1, q1, q2, q3⟩ := k1 rfl
      rw [show zFu - (jf - i) + (jf - i) = zFu by unfold zFu; omega, nI_0, show zFu - (jf - i) = (zFu - (jf - i) - 1) + 1 by unfold zFu; omega, zfix_succ] at q1
      have c9 : cstep (tk N b jf) (tv N b jf) (P, o', out.length + c.length, 0, false, pn') = (9, (P, o', out.length + c.length, 0, false, pn')) := by
        unfold cstep
        dsimp only
        rw [if_neg (show ¬ (false = true) by decide), if_pos ⟨h4, rfl⟩]
      rcases c_iter (x := 0 + (jf - i)) ht hz hl q2 d1 (by omega) (zfix (zFu - (jf - i) - 1) (gX5_readLaw_L82 (nI law) p)) with ⟨c1, M2, r1, _⟩ | ⟨f, c1, M2, r0, r1, _⟩ | ⟨c1, M2, r1, r2, r3, r4⟩
      · rw [c9] at r1; exact absurd (Prod.mk.inj r1).1 (by decide)
      · rw [c9] at r1; have := (Prod.mk.inj r1).1; omega
      · obtain ⟨s1, s2, s3, s4, s5, s6, s7⟩ := r3
        dsimp only at s1 s2 s3 s4
        rw [← e2] at s2
        exact ⟨jf, c, d1, hij, h4, d5, ⟨M2, q1.trans r2, ⟨q2.1.1, s7, s6, s5⟩, s1, s2, s4, q3.d.tr r4⟩, d2⟩
    · left
      obtain ⟨c', st⟩ := end_step (v := tv N b) (P := P) (W := []) (o := o') (kn := out.length + c.length) (op := 0) (pn := pn') d4 (fun w => h4 w.1) (by omega) (e4 (by decide))
      rw [List.append_nil] at st
      have hr : crun (tk N b) (tv N b) (jf - i + 1) ([], out, out.length, 0, true, true) i = (1, c', jf) := by rw [crun_add e1, crun_no (m := 0) st (by decide)]
      obtain ⟨k1, k2⟩ := c_crun ht hz hl _ _ c' i jf 0 (zFu - (jf - i + 1)) 1 Mc hc (by omega) hr d1
      obtain ⟨Mc', q1, q2, q3⟩ := k2 (Or.inl rfl)
      refine ⟨jf, c, d1, h4, ⟨Mc', ?_, q2, q3⟩, d2⟩
      rw [← q1, show zFu - (jf - i + 1) + (jf - i + 1) = zFu by unfold zFu; omega, nI_0]
theorem m_end_ok {M : zM} {N j : Nat} {b : Nat → Nat} (ht : tB N b) (hR : rX M N b j) (h4 : tk N b j = 4) : ∃ M', gX10_line_J458 M = some M' ∧ rX M' N b (j + 1) ∧ lnX M M' ∧ FW 98 20 M M' := by
  obtain ⟨M43, b1, b2, b3⟩ := m_tokX ht hR
  unfold gX10_line_J458
  rw [if_pos hR.1, zcI_some (m_isS ht hR.1 hR.2 st59), decide_eq_true h4, if_neg (by decide), zcV_some b1]
  unfold gX10_line_J487
  rw [zlet_eq]
  refine ⟨_, rfl, ⟨by rw [zI_of (by omega)]; exact b2.1, b2.2.mono (zI_of (by omega)) (fun i _ _ => zI_of (by omega)) (fun i => zI_of (by omega))⟩, ?_, b3.1, fun u i q => ?_⟩
  · unfold lnX
    rw [zI_at, b3.2 _ _ (by omega)]
  · rw [zI_of (by omega), b3.2 _ _ (by omega)]
theorem m_end_no {M : zM} {N j : Nat} {b : Nat → Nat} (ht : tB N b) (hR : rX M N b j) (h4 : tk N b j ≠ 4) : ∃ M', gX10_line_J458 M = some M' ∧ rF M' N b 1 j ∧ FW 98 20 M M' := by
  obtain ⟨M47, b1, b2, b3⟩ := m_wrongX 1 hR
  unfold gX10_line_J458
  rw [if_pos hR.1, zcI_some (m_isS ht hR.1 hR.2 st59), decide_eq_false h4, if_pos b2i_f, zcV_some (show gX10_wrong 1 M = _ from b1)]
  unfold gX10_line_J487
  rw [zlet_eq]
  refine ⟨_, rfl, ⟨?_, ?_⟩, b3.1, fun u i q => ?_⟩
  · rw [zI_of (by omega)]; exact b2.1
  · rw [zI_of (by omega)]; exact b2.2
  · rw [zI_of (by omega), b3.2 _ _ (by omega)]
theorem FW20.R {M M' : zM} (h : FW 98 20 M M') : FrR M M' := ⟨h.1, fun a i q => h.2 a i (fun w => q (by unfold FRc; omega))⟩
theorem jLaw {Mc Mm : zM} {p N z j n T L : Nat} {b : Nat → Nat} {P : AV} {sd : Nat → Bool} {LW : LWr} {out : List (Int32 × Int32)} (hTX : TX N z b) (hX : cX Mc p N z b (j + 1)) (hA : cAtt Mc N b j) (hR : rX Mm N b j) (hj : j ≤ z) (hK : tk N b j = 15) (hC : cPs Mc p n T L P sd LW out) (hM : mPs Mm n T L P sd LW out) (hI : aI n T L P LW out) :
    jF p N z b Mc Mm (gX5_readLaw Mc) (gX10_line Mm) ∨ jOK p N z b Mc Mm j (gX5_readLaw Mc) (gX10_line Mm) := by
  have ht := hTX.1
  have hz := hTX.2.1
  have hp := isPl_lt hX.1
  have hpl := hX.1
  have hjz := hTX.lt hj (by omega)
  have h38 := tk_38 ht (j + 1)
  obtain ⟨C1, C2, C3, C4, C5, C6⟩ := hC
  obtain ⟨D1, D2, D3, D4, D5, D6, D7⟩ := hM
  obtain ⟨⟨i1, i2, i3, i4⟩, i5, i6, i7, i8, i9, i10⟩ := hI
  obtain ⟨l1, l2, l3, l4⟩ := lk_at h38
  have hfull : gX10_isFull (nI 8) Mm = some 0 := by
    rw [m_full (fun _ => ⟨n, by omega, D1.1⟩) (fun _ => ⟨T, by omega, D1.2.1⟩) (fun _ => ⟨L, by omega, D1.2.2⟩) (by omega), if_neg (by omega)]
  obtain ⟨M7, g1, g2, g3, g4⟩ := m_J71 (w := 8) ht hR
  have h7 : ∀ a i, 99 ≤ a → M7.1 a i = Mm.1 a i := fun a i q => g4.2 a i (by omega)
  rw [m_line_01 ht hR (by omega) (by omega) hfull, g1, rt_law]
  obtain ⟨M1, a1, a2, a3⟩ := c_adv hz hX.2.2.1 hX.2.2.2 hjz
  have X1 : cX M1 p N z b (j + 1 + 1) := hX.q a3.Q a2.1
  unfold gX5_readLaw
  rw [zcV_some a1, a2.2.1]
  obtain ⟨t1, t2, t3, t4⟩ := g2.2.2.2.2
  -- FAULTS told ahead of the E
  have bad : ∀ f rc, fOk f → (∃ M', gX5_fails (nI f) M1 = some (0, M') ∧ (cF M' N b f (j + 1) ∧ FQ M1 M' → rc = some (0, M'))) → gX10_lawLine M7 = zcV (gX10_wrong (nI f) M7) (fun M' => some M') → jF p N z b Mc Mm rc (zcV (gX10_lawLine M7) (fun M130_ => gX10_line_J458 M130_)) := fun f rc hf hc hm => by
    obtain ⟨Mc', q1, q2, q3⟩ := c_fails f a2
    obtain ⟨Mm', r1, r2, r3⟩ := m_wrongX f g2
    obtain ⟨M', u1, u2⟩ := hc
    rw [q1] at u1
    have ee : Mc' = M' := (Prod.mk.inj (Option.some.inj u1)).2
    subst ee
    have fq : FQ M1 Mc' := ⟨q3.1, fun a i q => q3.2 a i (by omega)⟩
    rw [hm, zcV_some r1, zcV_some rfl, J458_F (rF_n0 r2 hf), u2 ⟨q2, fq⟩]
    exact ⟨f, j + 1, hf, hjz, ⟨Mc', rfl, q2, (a3.Q.C).tr fq.C⟩, Mm', rfl, r2, g4.R.tr r3.R⟩
  by_cases hL : 16 ≤ tk N b (j + 1) ∧ tk N b (j + 1) ≤ 18
  · obtain ⟨law, hlaw, elaw⟩ : ∃ law, law < 3 ∧ tk N b (j + 1) = 16 + law := ⟨tk N b (j + 1) - 16, by omega, by omega⟩
    have e16 : nI (tk N b (j + 1)) - 16 = nI law := by rw [(l2 hL.1).1, elaw, show 16 + law - 16 = law by omega]
    rw [if_neg (fun w => by have := l1.mp w; omega), if_pos ((l2 hL.1).2.mpr (by omega)), e16, zgP_some X1.2.1 hpl, zg_true (zok_nI hlaw (by omega)), nI_cl (by omega), a3.2 _ _ (by omega)]
    have ev : M7.1 98 25 = rVa (tk N b (j + 1)) := t4 (by omega)
    have e9 : M7.1 98 25 - 9 = nI law := by rw [ev, l4 hL, elaw, show 16 + law - 16 = law by omega]
    have n9 := l3.mpr hL
    have bt : bitI (M7.1 98 19) (16 + law) = (LW law).isSome := by
      rw [g3, bit_or (by omega) (by omega), D3.2 law hlaw, decide_eq_false (by omega), Bool.or_false]
    have e16' : (16 : Int32) + nI law = nI (16 + law) := by rw [show (16 : Int32) = nI 16 by decide, nI_add]
    have ell : gX10_lawLine M7 = (if ((((M7.1 98 19) : Int32) >>> (((nI (16 + law)) : Int32) &&& 31)) &&& 1) = 1 then zcV (gX10_wrong 3 M7) (fun M19_ => gX10_lawLine_J65 (nI law) M19_) else gX10_lawLine_J65 (nI law) M7) := by
      unfold gX10_lawLine
      rw [t1, if_pos ((rSo_at h38).1.mpr (by omega)), ev, if_neg n9.2.2.1, if_pos n9.2.2.2]
      unfold gX10_lawLine_J30
      rw [if_pos g2.1, e9, e16']
    cases hw : LW law with
    | some ae =>
      left
      have ha : M1.1 (p + 15) law = nI ae.1 := by rw [a3.2 _ _ (by omega)]; exact ((C4 law hlaw).2 ae hw).1
      have hle := (i10 law hlaw ae hw).2.1
      rw [((C4 law hlaw).2 ae hw).1, if_neg (nI_pos (by omega))]
      obtain ⟨Mc', q1, q2, q3⟩ := c_fails 3 a2
      refine bad 3 _ ⟨by omega, by omega⟩ ⟨Mc', q1, fun _ => ?_⟩ ?_
      · rw [zcIM_some (show gX5_fails 3 M1 = _ from q1), zb0]
      · obtain ⟨Mm', r1, r2, r3⟩ := m_wrongX 3 g2
        rw [ell, if_pos ((bit_rd (by omega)).mpr (by rw [bt, hw]; rfl)), zcV_some (show gX10_wrong 3 M7 = _ from r1), J65_F (rF_n0 r2 ⟨by omega, by omega⟩), zcV_some r1]
    | none =>
      rw [(C4 law hlaw).1 hw, if_pos (by decide), zg_true (zok_nI hlaw (by omega)), zlet_eq, zlet_eq, zlet_eq, zlet_eq, zlet_eq]
      have ou1 : ouM M1 p out := C5.mono (a3.2 _ _ (by omega)) (fun k => a3.2 _ _ (by omega)) (fun k => a3.2 _ _ (by omega))
      rw [ou1.1]
      have kc : ∀ a i, ¬ ((a = p + 15 ∧ i = law) ∨ (a = 47 ∧ (i = 10 ∨ i = 11 ∨ i = 12 ∨ i = 13))) → (zI (zI (zI (zI (zI M1 (p + 15) law (nI out.length)) 47 10 0) 47 11 0) 47 12 1) 47 13 1).1 a i = M1.1 a i := fun a i q => by rw [zI_of (by omega), zI_of (by omega), zI_of (by omega), zI_of (by omega), zI_of (by omega)]
      have k15 : (zI (zI (zI (zI (zI M1 (p + 15) law (nI out.length)) 47 10 0) 47 11 0) 47 12 1) 47 13 1).1 (p + 15) law = nI out.length := by rw [zI_of (by omega), zI_of (by omega), zI_of (by omega), zI_of (by omega), zI_at]
      have cE : cEM (zI (zI (zI (zI (zI M1 (p + 15) law (nI out.length)) 47 10 0) 47 11 0) 47 12 1) 47 13 1) p N z b (j + 1 + 1) ([], out, out.length, 0, true, true) := by
        refine ⟨⟨hpl, X1.2.1⟩, X1.2.2.1.mono (fun a i q1 q2 => kc a i (by omega)), by rw [kc _ _ (by omega)]; exact X1.2.2.2, ⟨⟨?_, fun k hk => absurd hk (by show ¬ k < 0; omega)⟩, ou1.mono (kc _ _ (by omega)) (fun k => kc _ _ (by omega)) (fun k => kc _ _ (by omega)), ?_, ?_, ?_, ?_⟩, ⟨by show out.length + 0 = out.length; omega, i4, rfl, by omega, fun q hq => by cases hq⟩⟩
        · rw [zI_of (by omega), zI_of (by omega), zI_of (by omega), zI_at]; exact nI_0.symm
        · rw [kc _ _ (by omega), a3.2 _ _ (by omega)]; exact C6
        · rw [zI_of (by omega), zI_of (by omega), zI_at]; exact nI_0.symm
        · rw [zI_of (by omega), zI_at]; rfl
        · rw [zI_at]; rfl
      have k2 : (zI (zI (zI (zI (zI M1 (p + 15) law (nI out.length)) 47 10 0) 47 11 0) 47 12 1) 47 13 1).2 = M1.2 := rfl
      generalize zI (zI (zI (zI (zI M1 (p + 15) law (nI out.length)) 47 10 0) 47 11 0) 47 12 1) 47 13 1 = M19 at kc k15 k2 cE ⊢
      -- the reference up to its E
      have R3 : rX (zI M7 98 19 ((M7.1 98 19) ||| ((1 : Int32) <<< (((nI (16 + law)) : Int32) &&& 31)))) N b (j + 1) := ⟨by rw [zI_of (by omega)]; exact g2.1, g2.2.mono (zI_of (by omega)) (fun i _ _ => zI_of (by omega)) (fun i => zI_of (by omega))⟩
      obtain ⟨M5, s1, s2, s3⟩ := m_tokX ht R3
      have m5 : ∀ a i, ¬ (a = 98 ∧ (i = 19 ∨ (22 ≤ i ∧ i ≤ 25))) → M5.1 a i = Mm.1 a i := fun a i q => by rw [s3.2 a i (by omega), zI_of (by omega), g4.2 a i (by omega)]
      have m519 : M5.1 98 19 = (M7.1 98 19) ||| ((1 : Int32) <<< (((nI (16 + law)) : Int32) &&& 31)) := by rw [s3.2 _ _ (by omega), zI_at]
      have f8 : ∀ M' : zM, gX10_fresher 8 M' = some (M'.1 100 17) := fun M' => m_fresher (w := 8) (by omega)
      have e3 : (3 : Int32) + nI law = nI (3 + law) := by rw [show (3 : Int32) = nI 3 by decide, nI_add]
      have e100 : M5.1 100 17 = nI out.length := by rw [m5 _ _ (by omega)]; exact D5.1
      have hS : rS (zI M5 112 (3 + law) (nI out.length)) N b (j + 1 + 1) out out.length 0 := by
        refine ⟨by rw [zI_of (by omega)]; exact s2.1, s2.2.mono (zI_of (by omega)) (fun i _ _ => zI_of (by omega)) (fun i => zI_of (by omega)), ?_, ?_, D5.mono ?_ (fun k => ?_) (fun k => ?_), Nat.le_refl _, i4, by omega⟩
        · rw [zI_of (by omega), m5 _ _ (by omega)]; exact D7
        · rw [zI_of (by omega), m5 _ _ (by omega)]; exact D6
        · rw [zI_of (by omega), m5 _ _ (by omega)]
        · rw [zI_of (by omega), m5 _ _ (by omega)]
        · rw [zI_of (by omega), m5 _ _ (by omega)]
      obtain ⟨M12, w1, w2, w3⟩ := jLw hTX hlaw cE hS (hTX.lt hjz (by omega))
      have e65 : gX10_lawLine M7 = some (zI M12 113 (3 + law) (M12.1 100 17)) := by
        rw [ell, if_neg (fun q => by rw [bit_rd (by omega), bt, hw] at q; cases q)]
        unfold gX10_lawLine_J65
        rw [if_pos g2.1, zlet_eq, e16', zcV_some s1, zcI_some (f8 _), e3, zg_true (zok_nI (show 3 + law < 6 by omega) (by omega)), zlet_eq, nI_cl (by omega), e100, zcV_some w1, zcI_some (f8 _), zg_true (zok_nI (show 3 + law < 6 by omega) (by omega)), zlet_eq]
      rw [e65, zcV_some rfl]
      have m12 : ∀ a i, ¬ (FEc a i ∨ (a = 98 ∧ i = 19) ∨ (112 ≤ a ∧ a ≤ 113 ∧ i = 3 + law)) → (zI M12 113 (3 + law) (M12.1 100 17)).1 a i = Mm.1 a i := fun a i q => by
        unfold FEc at q
        rw [zI_of (by omega), w2.2 a i (by unfold FEc; omega), zI_of (by omega), m5 a i (by omega)]
      have fr12 : FrR Mm (zI M12 113 (3 + law) (M12.1 100 17)) := by
        refine ⟨?_, fun a i q => m12 a i (fun w => q (by unfold FEc at w; unfold FRc; omega))⟩
        show M12.2 = Mm.2
        rw [w2.1]
        show M5.2 = Mm.2
        rw [s3.1]
        exact g4.1
      have f19 : FrC p Mc M19 := ⟨k2.trans a3.1, fun a i q => by rw [kc a i (by omega), a3.2 a i (by omega)]⟩
      have fcL : ∀ {M' : zM}, FLf p M19 M' → FrC p Mc M' := fun {M'} hf => f19.tr ⟨hf.1, fun a i q => hf.2 a i (by omega)⟩
      have v113 : ∀ a i, ¬ (a = 113 ∧ i = 3 + law) → (zI M12 113 (3 + law) (M12.1 100 17)).1 a i = M12.1 a i := fun a i q => zI_of q
      have x113 : (zI M12 113 (3 + law) (M12.1 100 17)).1 113 (3 + law) = M12.1 100 17 := zI_at
      have mX : ∀ {jf kn : Nat} {o : List (Int32 × Int32)}, rS M12 N b jf o kn 0 → rX (zI M12 113 (3 + law) (M12.1 100 17)) N b jf := fun h => ⟨by rw [zI_of (by omega)]; exact h.1, h.2.1.mono (zI_of (by omega)) (fun i _ _ => zI_of (by omega)) (fun i => zI_of (by omega))⟩
      have y112 : M12.1 112 (3 + law) = nI out.length := by rw [w2.2 _ _ (by unfold FEc; omega), zI_at]
      have y19 : M12.1 98 19 = M5.1 98 19 := by rw [w2.2 _ _ (by unfold FEc; omega), zI_of (by omega)]
      generalize zI M12 113 (3 + law) (M12.1 100 17) = M17 at m12 fr12 v113 x113 mX ⊢
      rcases w3 with ⟨f, jf, hf, hjf, ⟨Mc', q1, q2, q3⟩, r1⟩ | ⟨jf, c, hjf, h4, ⟨Mc', q1, q2, q3⟩, r1⟩ | ⟨jf, c, hjf, hij, h4, hwc, ⟨Mc', q1, q2, q3, q4, q5, q6⟩, r1⟩
      · left
        rw [q1, J458_F (by rw [v113 _ _ (by omega)]; exact rF_n0 r1 hf)]
        exact ⟨f, jf, hf, hjf, ⟨Mc', rfl, q2, fcL q3⟩, M17, rfl, ⟨by rw [v113 _ _ (by omega)]; exact r1.1, by rw [v113 _ _ (by omega)]; exact r1.2⟩, fr12⟩
      · left
        obtain ⟨Mm', u1, u2, u3⟩ := m_end_no ht (mX r1) h4
        rw [q1, u1]
        exact ⟨1, jf, ⟨by omega, by omega⟩, hjf, ⟨Mc', rfl, q2, fcL q3⟩, Mm', rfl, u2, fr12.tr (FW20.R u3)⟩
      · right
        obtain ⟨Mm', u1, u2, u3, u4⟩ := m_end_ok ht (mX r1) h4
        rw [q1, u1]
        obtain ⟨o1, o2, o3, o4, o5, o6, o7, o8⟩ := r1
        have hlen : (out ++ c).length = out.length + c.length := List.length_append
        have kcc : ∀ a i, ¬ (a = 47 ∨ a = 48 ∨ a = 49 ∨ a = p + 14 ∨ a = p + 17 ∨ a = p + 18 ∨ (a = p + 16 ∧ i = law) ∨ (a = p + 15 ∧ i = law)) → Mc'.1 a i = Mc.1 a i := fun a i q => by rw [q6.2 a i (by omega), kc a i (by omega), a3.2 a i (by omega)]
        have kmm : ∀ a i, ¬ (FEc a i ∨ (a = 98 ∧ (i = 19 ∨ i = 20)) ∨ (112 ≤ a ∧ a ≤ 113 ∧ i = 3 + law)) → Mm'.1 a i = Mm.1 a i := fun a i q => by
          unfold FEc at q
          rw [u4.2 a i (by omega), m12 a i (by unfold FEc; omega)]
        have lwo : ∀ u, u ≠ law → (fun u => if u = law then some (out.length, c) else LW u) u = LW u := fun u hu => if_neg hu
        have lwn : (fun u => if u = law then some (out.length, c) else LW u) law = some (out.length, c) := if_pos rfl
        refine ⟨n, T, L, P, sd, fun u => if u = law then some (out.length, c) else LW u, out ++ c, jf + 1, by omega, hTX.lt hjf (by omega), ⟨⟨i1, i2, i3, by omega⟩, i5, i6, i7, i8, i9, fun u hu ae hae => ?_⟩, ⟨Mc', rfl, q2, ⟨⟨?_, ?_, ?_⟩, fun c' k hc hd => ?_, fun k hk => ?_, fun u hu => ⟨fun w => ?_, fun ae w => ?_⟩, q4, by rw [hlen]; exact q5⟩, f19.tr ⟨q6.1, fun a i q => q6.2 a i (by omega)⟩, by rw [q6.2 _ _ (by omega), kc _ _ (by omega), a3.2 _ _ (by omega)], by rw [q6.2 _ _ (by omega), kc _ _ (by omega), a3.2 _ _ (by omega)]⟩, Mm', rfl, u2, ⟨⟨?_, ?_, ?_⟩, fun c' k hc hd => ?_, ⟨fun k hk => ?_, fun u hu => ?_⟩, fun u hu => ?_, o5.mono ?_ (fun k => ?_) (fun k => ?_), ?_, ?_⟩, ?_, fr12.tr (FW20.R u4)⟩
        · by_cases e : u = law
          · subst e
            have e1 := Option.some.inj (lwn.symm.trans hae)
            rw [← e1]
            exact ⟨hwc, Nat.le_of_eq hlen.symm, fun k hk => getD_app_r⟩
          · rw [lwo u e] at hae
            obtain ⟨h1, h2, h3⟩ := i10 u hu ae hae
            exact ⟨h1, by omega, fun k hk => by rw [getD_app_lt (by omega)]; exact h3 k hk⟩
        · rw [kcc _ _ (by omega)]; exact C1.1
        · rw [kcc _ _ (by omega)]; exact C1.2.1
        · rw [kcc _ _ (by omega)]; exact C1.2.2
        · have lt := pdim_lt hc hd
          rw [kcc _ _ (by omega)]; exact C2 c' k hc hd
        · rw [kcc _ _ (by omega)]; exact C3 k hk
        · by_cases e : u = law
          · subst e; rw [lwn] at w; cases w
          · rw [lwo u e] at w
            rw [kcc _ _ (by omega)]; exact (C4 u hu).1 w
        · by_cases e : u = law
          · subst e
            have e1 := Option.some.inj (lwn.symm.trans w)
            rw [← e1]
            refine ⟨?_, q3⟩
            rw [q6.2 _ _ (by omega)]; exact k15
          · rw [lwo u e] at w
            rw [kcc _ _ (by omega), kcc _ _ (by omega)]; exact (C4 u hu).2 ae w
        · rw [kmm _ _ (by unfold FEc; omega)]; exact D1.1
        · rw [kmm _ _ (by unfold FEc; omega)]; exact D1.2.1
        · rw [kmm _ _ (by unfold FEc; omega)]; exact D1.2.2
        · have lt := pdim_lt hc hd
          rw [← D2 c' k hc hd]
          rcases lt with q | q | q | q
          · rw [pu_4 (by omega), kmm _ _ (by unfold FEc; omega)]
          · rw [pu_8 (by omega), kmm _ _ (by unfold FEc; omega)]
          · rw [pu_11 (by omega), kmm _ _ (by unfold FEc; omega)]
          · rw [q.1, pu_12, kmm _ _ (by unfold FEc; omega)]
        · rw [u4.2 _ _ (by omega), v113 _ _ (by omega), y19, m519, bit_or (by omega) (by omega), g3, bit_or (by omega) (by omega), D3.1 k hk, decide_eq_false (by omega), decide_eq_false (by omega), Bool.or_false, Bool.or_false]
        · rw [u4.2 _ _ (by omega), v113 _ _ (by omega), y19, m519, bit_or (by omega) (by omega), g3, bit_or (by omega) (by omega), D3.2 u hu, decide_eq_false (show ¬ 16 + u = 8 by omega), Bool.or_false]
          by_cases e : u = law
          · subst e; rw [lwn, decide_eq_true rfl, Bool.or_true]; rfl
          · rw [lwo u e, decide_eq_false (by omega), Bool.or_false]
        · by_cases e : u = law
          · subst e
            unfold lwA lwB
            rw [lwn]
            refine ⟨?_, ?_⟩
            · rw [u4.2 _ _ (by omega), v113 _ _ (by omega)]; exact y112
            · rw [u4.2 _ _ (by omega), x113, o5.1, hlen]
          · unfold lwA lwB
            rw [lwo u e, kmm _ _ (by unfold FEc; omega), kmm _ _ (by unfold FEc; omega)]
            exact D4 u hu
        · rw [u4.2 _ _ (by omega), v113 _ _ (by omega)]
        · rw [u4.2 _ _ (by omega), v113 _ _ (by omega)]
        · rw [u4.2 _ _ (by omega), v113 _ _ (by omega)]
        · rw [u4.2 _ _ (by omega), v113 _ _ (by omega), hlen]; exact o4
        · rw [u4.2 _ _ (by omega), v113 _ _ (by omega)]; exact o3
        · unfold lnX at u3 ⊢
          rw [u3, m12 _ _ (by unfold FEc; omega)]
  · left
    have ebad : gX10_lawLine M7 = zcV (gX10_wrong (nI 1) M7) (fun M' => some M') := by
      obtain ⟨Mm', r1, r2, r3⟩ := m_wrongX 1 g2
      have ne := rF_n0 r2 ⟨by omega, by omega⟩
      have e25 : gX10_lawLine_J25 M7 = some Mm' := by
        unfold gX10_lawLine_J25
        rw [zcV_some (show gX10_wrong 1 M7 = _ from r1)]
        unfold gX10_lawLine_J30
        rw [if_neg ne, J65_F ne]
      unfold gX10_lawLine
      rw [e25, zcV_some r1, t1]
      by_cases w7 : 7 ≤ tk N b (j + 1) ∧ tk N b (j + 1) ≤ 28
      · rw [if_pos ((rSo_at h38).1.mpr w7), t4 (by omega)]
        by_cases w9 : rVa (tk N b (j + 1)) < 9
        · rw [if_pos w9]
        · rw [if_neg w9, if_neg (fun w => hL (l3.mp ⟨w7.1, w7.2, w9, w⟩))]
      · rw [if_neg (fun w => w7 ((rSo_at h38).1.mp w))]
    obtain ⟨Mc', q1, q2, q3⟩ := c_fails 1 a2
    refine bad 1 _ ⟨by omega, by omega⟩ ⟨Mc', q1, fun _ => ?_⟩ ebad
    have e21 : gX5_readLaw_J21 M1 = some (0, Mc') := by
      unfold gX5_readLaw_J21
      rw [zcIM_some (show gX5_fails 1 M1 = _ from q1), zb0]
    rw [e21]
    by_cases w : tk N b (j + 1) < 16
    · rw [if_pos (l1.mpr w)]
    · rw [if_neg (fun q => w (l1.mp q)), if_neg (fun q => by have := (l2 (by omega)).2.mp q; omega)]
