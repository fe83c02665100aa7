/-! ===== lines: a LOOK ===== -/
def P3 (P : AV) (c k : Nat) (x1 x2 x3 : Int32) : AV := vset (vset (vset P c k x1) (c + 1) k x2) (c + 2) k x3
theorem P3_old {P : AV} {c k c' k' : Nat} {x1 x2 x3 : Int32} (h : ¬ (k' = k ∧ c ≤ c' ∧ c' ≤ c + 2)) : P3 P c k x1 x2 x3 c' k' = P c' k' := by
  unfold P3 vset
  rw [if_neg (by omega), if_neg (by omega), if_neg (by omega)]
theorem P3_1 {P : AV} {c k : Nat} {x1 x2 x3 : Int32} : P3 P c k x1 x2 x3 c k = x1 := by
  unfold P3 vset
  rw [if_neg (by omega), if_neg (by omega), if_pos ⟨rfl, rfl⟩]
theorem P3_2 {P : AV} {c k : Nat} {x1 x2 x3 : Int32} : P3 P c k x1 x2 x3 (c + 1) k = x2 := by
  unfold P3 vset
  rw [if_neg (by omega), if_pos ⟨rfl, rfl⟩]
theorem P3_3 {P : AV} {c k : Nat} {x1 x2 x3 : Int32} : P3 P c k x1 x2 x3 (c + 2) k = x3 := by
  unfold P3 vset
  rw [if_pos ⟨rfl, rfl⟩]
/-- a name of a MAN told ahead -/
def cAh (E : Int32 → zM → Option (Int32 × zM)) (M : zM) : Option (Int32 × zM) := zcIM (gX5_reads 2 M) (fun v7_ M8_ => (if v7_ = 0 then some (0, M8_)
  else zgP (M8_.2.2 47 3) (fun p10_ => zgP (M8_.2.2 47 3) (fun p12_ => zcI (gX9_find (p10_ + 1) 6 (M8_.1 p12_ 0) (M8_.1 47 7) M8_) (fun v14_ => (if 0 ≤ v14_ then E v14_ M8_
  else zcIM (gX5_fails 4 M8_) (fun v45_ M46_ => zg (zbit v45_) (some (v45_, M46_)))))))))
theorem jAhead {Mc Mm : zM} {p N z j n : Nat} {b : Nat → Nat} {E : Int32 → zM → Option (Int32 × zM)} (hTX : TX N z b) (hX : cX Mc p N z b j) (hR : rX Mm N b j) (hj : j ≤ z) (hn : n ≤ 6) (h0 : Mc.1 p 0 = nI n) (h1 : Mm.1 100 9 = nI n) (he : ∀ k, k < n → Mc.1 (p + 1) k = Mm.1 101 (6 + k)) :
    (∃ f, fOk f ∧ (∃ Mc', cAh E Mc = some (0, Mc') ∧ cF Mc' N b f j ∧ FQ Mc Mc') ∧ ∃ Mm', gX10_manAhead Mm = some (0, Mm') ∧ rF Mm' N b f j ∧ FN Mm Mm') ∨
    (∃ m, m < n ∧ j < z ∧ (∃ Mc', cAh E Mc = E (nI m) Mc' ∧ cX Mc' p N z b (j + 1) ∧ FA Mc Mc') ∧ ∃ Mm', gX10_manAhead Mm = some (nI m, Mm') ∧ rX Mm' N b (j + 1) ∧ FN Mm Mm') := by
  have ht := hTX.1
  have h38 := tk_38 ht j
  have hp := isPl_lt hX.1
  obtain ⟨r1, r2⟩ := c_reads (k0 := 2) ht hTX.2.1 hX hj (by omega)
  obtain ⟨t1, t2, t3, t4⟩ := hR.2.2.2.2
  have bad : ∀ {M' : zM} {y : Int32}, ¬ M'.1 98 26 = 0 → gX10_manAhead_J69 y M' = some (0, M') := fun {M' y} hf => by
    unfold gX10_manAhead_J69
    rw [zcV_some (m_goOnF hf), if_neg hf]
  unfold cAh gX10_manAhead
  rw [if_pos hR.1, t1]
  by_cases h2 : tk N b j = 2
  · obtain ⟨M1, a1, a2, a3⟩ := r1 h2
    have hv : Mm.1 98 25 = tv N b j := t2 h2
    have hr1 : M1.2.2 47 3 = some p := by rw [a3.1]; exact hX.2.1
    have ef : ffst (fun k => M1.1 (p + 1) k == tv N b j) n = ffst (fun k => Mm.1 101 (6 + k) == tv N b j) n := ffst_congr (fun k hk => by rw [a3.2 _ _ (by omega), he k hk])
    have ec : gX9_find (p + 1) 6 (nI n) (M1.1 47 7) M1 = some (oN (ffst (fun k => Mm.1 101 (6 + k) == tv N b j) n)) := by rw [a2.2.2.2, s_find hn (by omega), ef]
    have em : gX10_found 101 12 6 (nI n) (Mm.1 98 25) Mm = some (oN (ffst (fun k => Mm.1 101 (6 + k) == tv N b j) n)) := by rw [hv]; exact r_found (d := 6) (by omega) (by omega)
    rw [zcIM_some (show gX5_reads 2 Mc = _ from a1), if_neg (by decide), zgP_some hr1 hX.1, zgP_some hr1 hX.1, a3.2 _ _ (by omega), h0, zcI_some ec, if_pos ((rSo_at h38).2.2.2.1.mpr h2)]
    unfold gX10_manAhead_J22
    rw [if_pos hR.1, zcI_some (show gX10_fresher 0 Mm = some (Mm.1 100 9) from m_fresher (w := 0) (by omega)), h1, zcI_some em]
    unfold gX10_manAhead_J51
    rw [if_pos hR.1]
    cases e : ffst (fun k => Mm.1 101 (6 + k) == tv N b j) n with
    | none =>
      rw [show oN none = -1 from rfl, if_neg (by decide), if_pos rfl]
      obtain ⟨M', q1, q2, q3⟩ := c_fails 4 a2
      obtain ⟨Mm', g1, g2, g3⟩ := m_wrongX 4 hR
      rw [zcIM_some (show gX5_fails 4 M1 = _ from q1), zb0, zcV_some (show gX10_wrong 4 Mm = _ from g1), bad (rF_n0 g2 ⟨by omega, by omega⟩)]
      exact Or.inl ⟨4, ⟨by omega, by omega⟩, ⟨M', rfl, q2, q3.1.trans a3.1, fun u i q => by rw [q3.2 u i (by omega), a3.2 u i (by omega)]⟩, Mm', rfl, g2, g3⟩
    | some m =>
      have hm := (ffst_some e).1
      rw [show oN (some m) = nI m from rfl, if_pos (nI_nn (by omega)), if_neg (nI_ne_m1 (by omega))]
      obtain ⟨M', g1, g2, g3⟩ := m_tokX ht hR
      refine Or.inr ⟨m, hm, hTX.lt hj (by omega), ⟨M1, rfl, hX.q a3.Q a2.1, a3⟩, M', ?_, g2, g3.N⟩
      unfold gX10_manAhead_J69 gX10_goOn
      rw [if_pos hR.1, zcV_some g1, zcV_some rfl, if_pos g2.1]
  · obtain ⟨M1, a1, a2, a3⟩ := r2 h2
    obtain ⟨Mm', g1, g2, g3⟩ := m_wrongX 1 hR
    have ne := rF_n0 g2 ⟨by omega, by omega⟩
    rw [zcIM_some (show gX5_reads 2 Mc = _ from a1), if_pos rfl, if_neg (fun w => h2 ((rSo_at h38).2.2.2.1.mp w)), zcV_some (show gX10_wrong 1 Mm = _ from g1)]
    unfold gX10_manAhead_J22
    rw [if_neg ne]
    unfold gX10_manAhead_J51
    rw [if_neg ne, bad ne]
    exact Or.inl ⟨1, ⟨by omega, by omega⟩, ⟨M1, rfl, a2, a3⟩, Mm', rfl, g2, g3⟩
def CLk (x : Int32) (M : zM) : Option (Int32 × zM) := cAh (fun v14_ M8_ => zgP (M8_.2.2 47 3) (fun p16_ => zg (zok x 10) (zlet (zI M8_ (p16_ + 9) (x : Int32).toNatClampNeg v14_) (fun M19_ => cStg 10 x 10 0 99 (cStg 11 x 10 1 99 (cInc 10)) M19_)))) M
def RLk (x : Int32) (M : zM) : Option zM := zcIM (gX10_manAhead M) (fun v83_ M84_ => zg (zok (10 + x) 20) (zlet (zI M84_ 109 ((10 + x) : Int32).toNatClampNeg v83_) (fun M87_ => rStg 110 (10 + x) 20 0 99 (rStg 111 (10 + x) 20 1 99 (rEnd 2)) M87_)))
def FK0 (p n : Nat) (M M' : zM) : Prop := M'.2 = M.2 ∧ ∀ a i, ¬ ((a = 47 ∧ 4 ≤ i ∧ i ≤ 7) ∨ (p + 9 ≤ a ∧ a ≤ p + 11 ∧ i = n)) → M'.1 a i = M.1 a i
def FO0 (n : Nat) (M M' : zM) : Prop := M'.2 = M.2 ∧ ∀ x i, ¬ ((x = 98 ∧ 22 ≤ i ∧ i ≤ 27) ∨ (109 ≤ x ∧ x ≤ 111 ∧ i = 10 + n)) → M'.1 x i = M.1 x i
theorem FK0.C {p n : Nat} {M M' : zM} (h : FK0 p n M M') : FrC p M M' := ⟨h.1, fun a i q => h.2 a i (by omega)⟩
theorem FO0.R {n : Nat} {M M' : zM} (h : FO0 n M M') : FrR M M' := ⟨h.1, fun x i q => h.2 x i (fun z => q (by unfold FRc; omega))⟩
theorem jLk {Mc Mm : zM} {p N z j n L : Nat} {b : Nat → Nat} (hTX : TX N z b) (hX : cX Mc p N z b j) (hR : rX Mm N b j) (hj : j ≤ z) (hn : n ≤ 6) (hL : L < 10) (h0 : Mc.1 p 0 = nI n) (h1 : Mm.1 100 9 = nI n) (he : ∀ k, k < n → Mc.1 (p + 1) k = Mm.1 101 (6 + k)) (hs : Mc.1 p 10 = nI L) (hw1 : Mm.1 100 11 = nI L) :
    jF p N z b Mc Mm (CLk (nI L) Mc) (RLk (nI L) Mm) ∨
    ∃ (m x1 x2 j' : Nat), m < n ∧ j < j' ∧ j' ≤ z ∧ (∃ Mc', CLk (nI L) Mc = some (1, Mc') ∧ cX Mc' p N z b j' ∧ Mc'.1 p 10 = nI (L + 1) ∧ (Mc'.1 (p + 9) L = nI m ∧ Mc'.1 (p + 10) L = nI x1 ∧ Mc'.1 (p + 11) L = nI x2) ∧ (Mc'.2 = Mc.2 ∧ ∀ a i, ¬ ((a = 47 ∧ 4 ≤ i ∧ i ≤ 7) ∨ (a = p ∧ i = 10) ∨ (p + 9 ≤ a ∧ a ≤ p + 11 ∧ i = L)) → Mc'.1 a i = Mc.1 a i)) ∧
      ∃ Mm', RLk (nI L) Mm = some Mm' ∧ rX Mm' N b j' ∧ Mm'.1 100 11 = nI (L + 1) ∧ (Mm'.1 109 (10 + L) = nI m ∧ Mm'.1 110 (10 + L) = nI x1 ∧ Mm'.1 111 (10 + L) = nI x2) ∧ lnX Mm Mm' ∧ (Mm'.2 = Mm.2 ∧ ∀ x i, ¬ ((x = 98 ∧ (i = 20 ∨ (22 ≤ i ∧ i ≤ 27))) ∨ (x = 100 ∧ i = 11) ∨ (109 ≤ x ∧ x ≤ 111 ∧ i = 10 + L)) → Mm'.1 x i = Mm.1 x i) := by
  have hp := isPl_lt hX.1
  have hpl := hX.1
  have e10 : (10 : Int32) + nI L = nI (10 + L) := by rw [show (10 : Int32) = nI 10 by decide, nI_add]
  unfold CLk RLk
  rw [e10]
  have wr : ∀ {M M' : zM} {f jf : Nat}, rF M N b f jf → FB 108 (10 + L) 2 M M' → rF M' N b f jf := fun h hb => ⟨by rw [hb.2 _ _ (by omega)]; exact h.1, by rw [hb.2 _ _ (by omega)]; exact h.2⟩
  have fR : ∀ {M M' : zM}, FB 108 (10 + L) 2 M M' → FrR M M' := fun hb => ⟨hb.1, fun x i q => hb.2 x i (fun zz => q (by unfold FRc; omega))⟩
  have wR : ∀ {M M' : zM} {u : Nat}, 109 ≤ u ∧ u ≤ 111 → FW u (10 + L) M M' → FrR M M' := fun hu hb => ⟨hb.1, fun x i q => hb.2 x i (fun zz => q (by unfold FRc; omega))⟩
  rcases jAhead (E := fun v14_ M8_ => zgP (M8_.2.2 47 3) (fun p16_ => zg (zok (nI L) 10) (zlet (zI M8_ (p16_ + 9) ((nI L) : Int32).toNatClampNeg v14_) (fun M19_ => cStg 10 (nI L) 10 0 99 (cStg 11 (nI L) 10 1 99 (cInc 10)) M19_)))) hTX hX hR hj hn h0 h1 he with ⟨f, hf, ⟨Mc1, a1, a2, a3⟩, Mm1, b1, b2, b3⟩ | ⟨m, hm, hjz, ⟨Mc1, a1, a2, a3⟩, Mm1, b1, b2, b3⟩
  · left
    rw [a1, zcIM_some b1, zg_true (zok_nI (show 10 + L < 20 by omega) (by omega)), zlet_eq, nI_cl (by omega)]
    obtain ⟨M', g1, g2⟩ := chF2 (a := 108) (k := 10 + L) (w := 2) (n1 := 20) (l2 := 0) (h2 := 99) (l3 := 1) (h3 := 99) (M := zI Mm1 109 (10 + L) 0) (by omega) (by omega) (by omega) (by omega) (by rw [zI_of (by omega)]; exact rF_n0 b2 hf)
    rw [show rStg 110 (nI (10 + L)) 20 0 99 (rStg 111 (nI (10 + L)) 20 1 99 (rEnd 2)) (zI Mm1 109 (10 + L) 0) = some M' from g1]
    refine ⟨f, j, hf, hj, ⟨Mc1, rfl, a2, a3.C⟩, M', rfl, wr (M := zI Mm1 109 (10 + L) 0) ⟨by rw [zI_of (by omega)]; exact b2.1, by rw [zI_of (by omega)]; exact b2.2⟩ g2, b3.R.tr (FrR.tr (FrR.put (by unfold FRc; omega)) (fR g2))⟩
  · rw [a1, zgP_some a2.2.1 hpl, zg_true (zok_nI (show L < 10 by omega) (by omega)), zlet_eq, nI_cl (by omega), zcIM_some b1, zg_true (zok_nI (show 10 + L < 20 by omega) (by omega)), zlet_eq, nI_cl (by omega)]
    have fA : FK0 p L Mc (zI Mc1 (p + 9) L (nI m)) := ⟨a3.1, fun u i q => by rw [zI_of (by omega), a3.2 u i (by omega)]⟩
    have fB : FO0 L Mm (zI Mm1 109 (10 + L) (nI m)) := ⟨b3.1, fun u i q => by rw [zI_of (by omega), b3.2 u i (by omega)]⟩
    have X2 : cX (zI Mc1 (p + 9) L (nI m)) p N z b (j + 1) := ⟨hpl, a2.2.1, a2.2.2.1.mono (fun u i q1 q2 => zI_of (by omega)), by rw [zI_of (by omega)]; exact a2.2.2.2⟩
    have R2 : rX (zI Mm1 109 (10 + L) (nI m)) N b (j + 1) := ⟨by rw [zI_of (by omega)]; exact b2.1, b2.2.mono (zI_of (by omega)) (fun i _ _ => zI_of (by omega)) (fun i => zI_of (by omega))⟩
    have v0 : (zI Mc1 (p + 9) L (nI m)).1 (p + 9) L = nI m := zI_at
    have u0 : (zI Mm1 109 (10 + L) (nI m)).1 109 (10 + L) = nI m := zI_at
    generalize zI Mc1 (p + 9) L (nI m) = Mc2 at fA X2 v0 ⊢
    generalize zI Mm1 109 (10 + L) (nI m) = Mm2 at fB R2 u0 ⊢
    rcases jStg (Mc := Mc2) (Mm := Mm2) (c := 10) (k := L) (n0 := 10) (a := 110) (k1 := 10 + L) (n1 := 20) (lo := 0) (hi := 99) (E := cStg 11 (nI L) 10 1 99 (cInc 10)) (E' := rStg 111 (nI (10 + L)) 20 1 99 (rEnd 2)) hTX X2 R2 (by omega) (by omega) (by omega) hL (by omega) (by omega) (by omega) (by omega) (by omega) with ⟨f, hf, ⟨Mc3, c1, c2, c3⟩, Mm3, d1, d2, d3⟩ | ⟨x1, hx1, hy1, hjz1, ⟨Mc3, c1, c2, c3, c4⟩, Mm3, d1, d2, d3, d4⟩
    · left
      rw [show cStg 10 (nI L) 10 0 99 (cStg 11 (nI L) 10 1 99 (cInc 10)) Mc2 = _ from c1, show rStg 110 (nI (10 + L)) 20 0 99 (rStg 111 (nI (10 + L)) 20 1 99 (rEnd 2)) Mm2 = _ from d1]
      obtain ⟨M', g1, g2⟩ := chF1 (a := 108) (k := 10 + L) (w := 2) (n1 := 20) (l3 := 1) (h3 := 99) (M := Mm3) (by omega) (by omega) (by omega) (by omega) (rF_n0 d2 hf)
      rw [show rStg 111 (nI (10 + L)) 20 1 99 (rEnd 2) Mm3 = some M' from g1]
      exact ⟨f, j + 1, hf, by omega, ⟨Mc3, rfl, c2, fA.C.tr c3.C⟩, M', rfl, wr d2 g2, fB.R.tr ((wR (by omega) d3).tr (fR g2))⟩
    rw [show cStg 10 (nI L) 10 0 99 (cStg 11 (nI L) 10 1 99 (cInc 10)) Mc2 = _ from c1, show rStg 110 (nI (10 + L)) 20 0 99 (rStg 111 (nI (10 + L)) 20 1 99 (rEnd 2)) Mm2 = _ from d1]
    have fA3 : FK0 p L Mc Mc3 := ⟨c4.1.trans fA.1, fun u i q => by rw [c4.2 u i (by omega), fA.2 u i q]⟩
    have fB3 : FO0 L Mm Mm3 := ⟨d4.1.trans fB.1, fun u i q => by rw [d4.2 u i (by omega), fB.2 u i q]⟩
    rcases jStg (Mc := Mc3) (Mm := Mm3) (c := 11) (k := L) (n0 := 10) (a := 111) (k1 := 10 + L) (n1 := 20) (lo := 1) (hi := 99) (E := cInc 10) (E' := rEnd 2) hTX c2 d2 (by omega) (by omega) (by omega) hL (by omega) (by omega) (by omega) (by omega) (by omega) with ⟨f, hf, ⟨Mc5, k1, k2, k3⟩, Mm5, m1, m2, m3⟩ | ⟨x3, hx3, hy3, hjz3, ⟨Mc5, k1, k2, k3, k4⟩, Mm5, m1, m2, m3, m4⟩
    · left
      rw [show cStg 11 (nI L) 10 1 99 (cInc 10) Mc3 = _ from k1, show rStg 111 (nI (10 + L)) 20 1 99 (rEnd 2) Mm3 = _ from m1]
      obtain ⟨M', g1, g2⟩ := chF0 (a := 108) (k := 10 + L) (w := 2) (M := Mm5) (by omega) (rF_n0 m2 hf)
      rw [show rEnd 2 Mm5 = some M' from g1]
      exact ⟨f, j + 1 + 1, hf, by omega, ⟨Mc5, rfl, k2, fA3.C.tr k3.C⟩, M', rfl, wr m2 g2, fB3.R.tr ((wR (by omega) m3).tr (fR g2))⟩
    rw [show cStg 11 (nI L) 10 1 99 (cInc 10) Mc3 = _ from k1, show rStg 111 (nI (10 + L)) 20 1 99 (rEnd 2) Mm3 = _ from m1, show rEnd 2 Mm5 = gX10_line_J458 (zI Mm5 100 11 (Mm5.1 100 11 + 1)) from rEnd_eq (w := 2) (by omega)]
    have fA5 : FK0 p L Mc Mc5 := ⟨k4.1.trans fA3.1, fun u i q => by rw [k4.2 u i (by omega), fA3.2 u i q]⟩
    have fB5 : FO0 L Mm Mm5 := ⟨m4.1.trans fB3.1, fun u i q => by rw [m4.2 u i (by omega), fB3.2 u i q]⟩
    have sl : Mc5.1 p 10 = nI L := by rw [fA5.2 _ _ (by omega)]; exact hs
    have wl : Mm5.1 100 11 = nI L := by rw [fB5.2 _ _ (by omega)]; exact hw1
    unfold cInc
    rw [zgP_some k2.2.1 hpl, zlet_eq, sl, wl, nI_1]
    have X6 : cX (zI Mc5 p 10 (nI (L + 1))) p N z b (j + 1 + 1 + 1) := ⟨hpl, k2.2.1, k2.2.2.1.mono (fun u i q1 q2 => zI_of (by omega)), by rw [zI_of (by omega)]; exact k2.2.2.2⟩
    have R6 : rX (zI Mm5 100 11 (nI (L + 1))) N b (j + 1 + 1 + 1) := ⟨by rw [zI_of (by omega)]; exact m2.1, m2.2.mono (zI_of (by omega)) (fun i _ _ => zI_of (by omega)) (fun i => zI_of (by omega))⟩
    rcases jEnd hTX X6 R6 (by omega) with ⟨f, hf, ⟨Mc6, q1, q2, q3⟩, Mm6, r1, r2, r3⟩ | ⟨hjz4, ⟨Mc6, q1, q2, q3⟩, Mm6, r1, r2, r3, r4⟩
    · left
      rw [q1, r1]
      refine ⟨f, j + 1 + 1 + 1, hf, by omega, ⟨Mc6, rfl, q2, q3.1.trans fA5.1, fun u i q => ?_⟩, Mm6, rfl, r2, r3.1.trans fB5.1, fun u i q => ?_⟩
      · rw [q3.2 u i (by omega), zI_of (by omega), fA5.2 u i (by omega)]
      · unfold FRc at q
        rw [r3.2 u i (by omega), zI_of (by omega), fB5.2 u i (by omega)]
    · right
      refine ⟨m, x1, x3, j + 1 + 1 + 1 + 1, hm, by omega, by omega, ⟨Mc6, q1, q2, ?_, ⟨?_, ?_, ?_⟩, q3.1.trans fA5.1, fun u i q => ?_⟩, Mm6, r1, r2, ?_, ⟨?_, ?_, ?_⟩, ?_, r4.1.trans fB5.1, fun u i q => ?_⟩
      · rw [q3.2 _ _ (by omega), zI_at]
      · rw [q3.2 _ _ (by omega), zI_of (by omega), k4.2 _ _ (by omega), c4.2 _ _ (by omega)]; exact v0
      · rw [q3.2 _ _ (by omega), zI_of (by omega), k4.2 _ _ (by omega)]; exact c3
      · rw [q3.2 _ _ (by omega), zI_of (by omega)]; exact k3
      · rw [q3.2 u i (by omega), zI_of (by omega), fA5.2 u i (by omega)]
      · rw [r4.2 _ _ (by omega), zI_at]
      · rw [r4.2 _ _ (by omega), zI_of (by omega), m4.2 _ _ (by omega), d4.2 _ _ (by omega)]; exact u0
      · rw [r4.2 _ _ (by omega), zI_of (by omega), m4.2 _ _ (by omega)]; exact d3
      · rw [r4.2 _ _ (by omega), zI_of (by omega)]; exact m3
      · unfold lnX at r3 ⊢
        rw [r3, zI_of (by omega), fB5.2 _ _ (by omega)]
      · rw [r4.2 u i (by omega), zI_of (by omega), fB5.2 u i (by omega)]
