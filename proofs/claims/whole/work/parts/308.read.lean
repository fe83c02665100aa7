/-! ===== a MAN, a THING: a name and three numbers ===== -/
def cInc (slot : Nat) (M : zM) : Option (Int32 × zM) := zgP (M.2.2 47 3) (fun p => zlet (zI M p slot ((M.1 p slot) + 1)) (fun M' => cEnd M'))
def CN (c slot n0 : Nat) (x l1 h1 l2 h2 l3 h3 : Int32) (M : zM) : Option (Int32 × zM) := zgP (M.2.2 47 3) (fun p7_ => zcIM (gX5_readsNewName (p7_ + c) n0 x M) (fun v9_ M10_ => (if v9_ = 0 then some (0, M10_)
  else zgP (M10_.2.2 47 3) (fun p12_ => zg (zok x n0) (zlet (zI M10_ (p12_ + c) (x : Int32).toNatClampNeg (M10_.1 47 7)) (fun M15_ => cStg (c + 1) x n0 l1 h1 (cStg (c + 2) x n0 l2 h2 (cStg (c + 3) x n0 l3 h3 (cInc slot))) M15_))))))
def RN (a n1 : Nat) (d x w l1 h1 l2 h2 l3 h3 : Int32) (M : zM) : Option zM := zcIM (gX10_fresh a n1 d x M) (fun v13_ M14_ => zg (zok (d + x) n1) (zlet (zI M14_ a ((d + x) : Int32).toNatClampNeg v13_) (fun M17_ => rStg (a + 1) (d + x) n1 l1 h1 (rStg (a + 2) (d + x) n1 l2 h2 (rStg (a + 3) (d + x) n1 l3 h3 (rEnd w))) M17_)))
def FB (a k w : Nat) (M M' : zM) : Prop := M'.2 = M.2 ∧ ∀ x i, ¬ ((x = 100 ∧ i = 9 + w) ∨ (a ≤ x ∧ x ≤ a + 3 ∧ i = k)) → M'.1 x i = M.1 x i
theorem chF0 {a k w : Nat} {M : zM} (hw : w < 9) (h : ¬ M.1 98 26 = 0) : ∃ M', rEnd (nI w) M = some M' ∧ FB a k w M M' := ⟨_, rEnd_F hw h, rfl, fun x i q => zI_of (by omega)⟩
theorem chF1 {a k w n1 : Nat} {l3 h3 : Int32} {M : zM} (ha : 101 ≤ a) (hw : w < 9) (hk : k < n1) (hn : n1 < 1000) (h : ¬ M.1 98 26 = 0) : ∃ M', rStg (a + 3) (nI k) n1 l3 h3 (rEnd (nI w)) M = some M' ∧ FB a k w M M' := by
  rw [rStg_F hk hn h]
  obtain ⟨M', g1, g2⟩ := chF0 (a := a) (k := k) (M := zI M (a + 3) k l3) hw (by rw [zI_of (by omega)]; exact h)
  exact ⟨M', g1, g2.1, fun x i q => by rw [g2.2 x i q, zI_of (by omega)]⟩
theorem chF2 {a k w n1 : Nat} {l2 h2 l3 h3 : Int32} {M : zM} (ha : 101 ≤ a) (hw : w < 9) (hk : k < n1) (hn : n1 < 1000) (h : ¬ M.1 98 26 = 0) : ∃ M', rStg (a + 2) (nI k) n1 l2 h2 (rStg (a + 3) (nI k) n1 l3 h3 (rEnd (nI w))) M = some M' ∧ FB a k w M M' := by
  rw [rStg_F hk hn h]
  obtain ⟨M', g1, g2⟩ := chF1 (a := a) (k := k) (l3 := l3) (h3 := h3) (M := zI M (a + 2) k l2) ha hw hk hn (by rw [zI_of (by omega)]; exact h)
  exact ⟨M', g1, g2.1, fun x i q => by rw [g2.2 x i q, zI_of (by omega)]⟩
theorem chF3 {a k w n1 : Nat} {l1 h1 l2 h2 l3 h3 : Int32} {M : zM} (ha : 101 ≤ a) (hw : w < 9) (hk : k < n1) (hn : n1 < 1000) (h : ¬ M.1 98 26 = 0) : ∃ M', rStg (a + 1) (nI k) n1 l1 h1 (rStg (a + 2) (nI k) n1 l2 h2 (rStg (a + 3) (nI k) n1 l3 h3 (rEnd (nI w)))) M = some M' ∧ FB a k w M M' := by
  rw [rStg_F hk hn h]
  obtain ⟨M', g1, g2⟩ := chF2 (a := a) (k := k) (l2 := l2) (h2 := h2) (l3 := l3) (h3 := h3) (M := zI M (a + 1) k l1) ha hw hk hn (by rw [zI_of (by omega)]; exact h)
  exact ⟨M', g1, g2.1, fun x i q => by rw [g2.2 x i q, zI_of (by omega)]⟩
/-- a line's FAULT: both name it -/
def jF (p N z : Nat) (b : Nat → Nat) (Mc Mm : zM) (rc : Option (Int32 × zM)) (rm : Option zM) : Prop := ∃ f jf, fOk f ∧ jf ≤ z ∧ (∃ Mc', rc = some (0, Mc') ∧ cF Mc' N b f jf ∧ FrC p Mc Mc') ∧ ∃ Mm', rm = some Mm' ∧ rF Mm' N b f jf ∧ FrR Mm Mm'
def FCn (p c slot n : Nat) (M M' : zM) : Prop := M'.2 = M.2 ∧ ∀ a i, ¬ ((a = 47 ∧ 4 ≤ i ∧ i ≤ 7) ∨ (a = p ∧ i = slot) ∨ (p + c ≤ a ∧ a ≤ p + c + 3 ∧ i = n)) → M'.1 a i = M.1 a i
def FMn (a d w n : Nat) (M M' : zM) : Prop := M'.2 = M.2 ∧ ∀ x i, ¬ ((x = 98 ∧ (i = 20 ∨ (22 ≤ i ∧ i ≤ 27))) ∨ (x = 100 ∧ i = 9 + w) ∨ (a ≤ x ∧ x ≤ a + 3 ∧ i = d + n)) → M'.1 x i = M.1 x i
def FC0 (p c n : Nat) (M M' : zM) : Prop := M'.2 = M.2 ∧ ∀ a i, ¬ ((a = 47 ∧ 4 ≤ i ∧ i ≤ 7) ∨ (p + c ≤ a ∧ a ≤ p + c + 3 ∧ i = n)) → M'.1 a i = M.1 a i
def FM0 (a d n : Nat) (M M' : zM) : Prop := M'.2 = M.2 ∧ ∀ x i, ¬ ((x = 98 ∧ 22 ≤ i ∧ i ≤ 27) ∨ (a ≤ x ∧ x ≤ a + 3 ∧ i = d + n)) → M'.1 x i = M.1 x i
theorem FC0.C {p c n : Nat} {M M' : zM} (h : FC0 p c n M M') (hc : c ≤ 17) : FrC p M M' := ⟨h.1, fun a i q => h.2 a i (by omega)⟩
theorem FM0.R {a d n : Nat} {M M' : zM} (h : FM0 a d n M M') (ha : (a = 101 ∧ d = 6) ∨ (a = 105 ∧ d = 8)) : FrR M M' := ⟨h.1, fun x i q => h.2 x i (fun z => q (by unfold FRc; omega))⟩
theorem FCn.C {p c slot n : Nat} {M M' : zM} (h : FCn p c slot n M M') (hc : c ≤ 17) : FrC p M M' := ⟨h.1, fun a i q => h.2 a i (by omega)⟩
theorem FMn.R {a d w n : Nat} {M M' : zM} (h : FMn a d w n M M') (ha : (a = 101 ∧ d = 6) ∨ (a = 105 ∧ d = 8)) : FrR M M' := ⟨h.1, fun x i q => h.2 x i (fun z => q (by unfold FRc; omega))⟩
theorem jNew {Mc Mm : zM} {p N z j c slot n n0 a d w n1 l1 h1 l2 h2 l3 h3 : Nat} {b : Nat → Nat} (hTX : TX N z b) (hX : cX Mc p N z b j) (hR : rX Mm N b j) (hj : j ≤ z) (hc : 1 ≤ c ∧ c ≤ 8) (hn : n < n0) (hn0 : n0 ≤ 8) (hd : d + n0 ≤ n1) (hn1 : n1 ≤ 16) (hw : w < 9) (ha : (a = 101 ∧ d = 6) ∨ (a = 105 ∧ d = 8)) (hr1 : l1 ≤ h1 ∧ h1 ≤ 99) (hr2 : l2 ≤ h2 ∧ h2 ≤ 99) (hr3 : l3 ≤ h3 ∧ h3 ≤ 99) (he : ∀ k, k < n → Mc.1 (p + c) k = Mm.1 a (d + k)) (hs : Mc.1 p slot = nI n) (hw1 : Mm.1 100 (9 + w) = nI n) :
    jF p N z b Mc Mm (CN c slot n0 (nI n) (nI l1) (nI h1) (nI l2) (nI h2) (nI l3) (nI h3) Mc) (RN a n1 (nI d) (nI n) (nI w) (nI l1) (nI h1) (nI l2) (nI h2) (nI l3) (nI h3) Mm) ∨
    ∃ (x0 : Int32) (x1 x2 x3 j' : Nat), (l1 ≤ x1 ∧ x1 ≤ h1) ∧ (l2 ≤ x2 ∧ x2 ≤ h2) ∧ (l3 ≤ x3 ∧ x3 ≤ h3) ∧ j < j' ∧ j' ≤ z ∧ (∃ Mc', CN c slot n0 (nI n) (nI l1) (nI h1) (nI l2) (nI h2) (nI l3) (nI h3) Mc = some (1, Mc') ∧ cX Mc' p N z b j' ∧ Mc'.1 p slot = nI (n + 1) ∧ (Mc'.1 (p + c) n = x0 ∧ Mc'.1 (p + (c + 1)) n = nI x1 ∧ Mc'.1 (p + (c + 2)) n = nI x2 ∧ Mc'.1 (p + (c + 3)) n = nI x3) ∧ FCn p c slot n Mc Mc') ∧
      ∃ Mm', RN a n1 (nI d) (nI n) (nI w) (nI l1) (nI h1) (nI l2) (nI h2) (nI l3) (nI h3) Mm = some Mm' ∧ rX Mm' N b j' ∧ Mm'.1 100 (9 + w) = nI (n + 1) ∧ (Mm'.1 a (d + n) = x0 ∧ Mm'.1 (a + 1) (d + n) = nI x1 ∧ Mm'.1 (a + 2) (d + n) = nI x2 ∧ Mm'.1 (a + 3) (d + n) = nI x3) ∧ lnX Mm Mm' ∧ FMn a d w n Mm Mm' := by
  have hp := isPl_lt hX.1
  have hpl := hX.1
  unfold CN RN
  rw [zgP_some hX.2.1 hpl, nI_add]
  have wr : ∀ {M M' : zM} {f jf : Nat}, rF M N b f jf → fOk f → FB a (d + n) w M M' → rF M' N b f jf := fun h hf hb => ⟨by rw [hb.2 _ _ (by omega)]; exact h.1, by rw [hb.2 _ _ (by omega)]; exact h.2⟩
  have fR : ∀ {M M' : zM}, FB a (d + n) w M M' → FrR M M' := fun hb => ⟨hb.1, fun x i q => hb.2 x i (fun zz => q (by unfold FRc; omega))⟩
  have wR : ∀ {M M' : zM} {u : Nat}, u ≤ 3 → FW (a + u) (d + n) M M' → FrR M M' := fun hu hb => ⟨hb.1, fun x i q => hb.2 x i (fun zz => q (by unfold FRc; omega))⟩
  rcases jName (c := c) (n0 := n0) (a := a) (d := d) (n1 := n1) (n := n) hTX hX hR hj (by omega) (by omega) (by omega) (by omega) (by omega) he (by omega) with ⟨f, hf, ⟨Mc1, a1, a2, a3⟩, Mm1, b1, b2, b3⟩ | ⟨x0, hjz, ⟨Mc1, a1, a2, a3, a4⟩, Mm1, b1, b2, b3⟩
  · left
    rw [zcIM_some a1, if_pos rfl, zcIM_some b1, zg_true (zok_nI (show d + n < n1 by omega) (by omega)), zlet_eq, nI_cl (by omega)]
    obtain ⟨M', g1, g2⟩ := chF3 (a := a) (k := d + n) (w := w) (n1 := n1) (l1 := nI l1) (h1 := nI h1) (l2 := nI l2) (h2 := nI h2) (l3 := nI l3) (h3 := nI h3) (M := zI Mm1 a (d + n) 0) (by omega) hw (by omega) (by omega) (by rw [zI_of (by omega)]; exact rF_n0 b2 hf)
    rw [g1]
    refine ⟨f, j, hf, hj, ⟨Mc1, rfl, a2, a3.C⟩, M', rfl, wr (M := zI Mm1 a (d + n) 0) ⟨by rw [zI_of (by omega)]; exact b2.1, by rw [zI_of (by omega)]; exact b2.2⟩ hf g2, b3.R.tr (FrR.tr (FrR.put (by unfold FRc; omega)) (fR g2))⟩
  · rw [zcIM_some a1, if_neg (by decide), zgP_some a2.2.1 hpl, zg_true (zok_nI hn (by omega)), zlet_eq, nI_cl (by omega), a3, zcIM_some b1, zg_true (zok_nI (show d + n < n1 by omega) (by omega)), zlet_eq, nI_cl (by omega)]
    have fA : FC0 p c n Mc (zI Mc1 (p + c) n x0) := ⟨a4.1, fun u i q => by rw [zI_of (by omega), a4.2 u i (by omega)]⟩
    have fB : FM0 a d n Mm (zI Mm1 a (d + n) x0) := ⟨b3.1, fun u i q => by rw [zI_of (by omega), b3.2 u i (by omega)]⟩
    have X2 : cX (zI Mc1 (p + c) n x0) p N z b (j + 1) := ⟨hpl, a2.2.1, a2.2.2.1.mono (fun u i q1 q2 => zI_of (by omega)), by rw [zI_of (by omega)]; exact a2.2.2.2⟩
    have R2 : rX (zI Mm1 a (d + n) x0) N b (j + 1) := ⟨by rw [zI_of (by omega)]; exact b2.1, b2.2.mono (zI_of (by omega)) (fun i _ _ => zI_of (by omega)) (fun i => zI_of (by omega))⟩
    have v0 : (zI Mc1 (p + c) n x0).1 (p + c) n = x0 := zI_at
    have u0 : (zI Mm1 a (d + n) x0).1 a (d + n) = x0 := zI_at
    generalize zI Mc1 (p + c) n x0 = Mc2 at fA X2 v0 ⊢
    generalize zI Mm1 a (d + n) x0 = Mm2 at fB R2 u0 ⊢
    rcases jStg (Mc := Mc2) (Mm := Mm2) (c := c + 1) (k := n) (n0 := n0) (a := a + 1) (k1 := d + n) (n1 := n1) (lo := l1) (hi := h1) (E := cStg (c + 2) (nI n) n0 (nI l2) (nI h2) (cStg (c + 3) (nI n) n0 (nI l3) (nI h3) (cInc slot))) (E' := rStg (a + 2) (nI (d + n)) n1 (nI l2) (nI h2) (rStg (a + 3) (nI (d + n)) n1 (nI l3) (nI h3) (rEnd (nI w)))) hTX X2 R2 (by omega) (by omega) (by omega) hn (by omega) (by omega) (by omega) (by omega) (by omega) with ⟨f, hf, ⟨Mc3, c1, c2, c3⟩, Mm3, d1, d2, d3⟩ | ⟨x1, hx1, hy1, hjz1, ⟨Mc3, c1, c2, c3, c4⟩, Mm3, d1, d2, d3, d4⟩
    · left
      rw [c1, d1]
      obtain ⟨M', g1, g2⟩ := chF2 (a := a) (k := d + n) (w := w) (n1 := n1) (l2 := nI l2) (h2 := nI h2) (l3 := nI l3) (h3 := nI h3) (M := Mm3) (by omega) hw (by omega) (by omega) (rF_n0 d2 hf)
      rw [g1]
      exact ⟨f, j + 1, hf, by omega, ⟨Mc3, rfl, c2, (fA.C (by omega)).tr c3.C⟩, M', rfl, wr d2 hf g2, (fB.R ha).tr ((wR (by omega) d3).tr (fR g2))⟩
    rw [c1, d1]
    have fA3 : FC0 p c n Mc Mc3 := ⟨c4.1.trans fA.1, fun u i q => by rw [c4.2 u i (by omega), fA.2 u i q]⟩
    have fB3 : FM0 a d n Mm Mm3 := ⟨d4.1.trans fB.1, fun u i q => by rw [d4.2 u i (by omega), fB.2 u i q]⟩
    rcases jStg (Mc := Mc3) (Mm := Mm3) (c := c + 2) (k := n) (n0 := n0) (a := a + 2) (k1 := d + n) (n1 := n1) (lo := l2) (hi := h2) (E := cStg (c + 3) (nI n) n0 (nI l3) (nI h3) (cInc slot)) (E' := rStg (a + 3) (nI (d + n)) n1 (nI l3) (nI h3) (rEnd (nI w))) hTX c2 d2 (by omega) (by omega) (by omega) hn (by omega) (by omega) (by omega) (by omega) (by omega) with ⟨f, hf, ⟨Mc4, e1, e2, e3⟩, Mm4, f1, f2, f3⟩ | ⟨x2, hx2, hy2, hjz2, ⟨Mc4, e1, e2, e3, e4⟩, Mm4, f1, f2, f3, f4⟩
    · left
      rw [e1, f1]
      obtain ⟨M', g1, g2⟩ := chF1 (a := a) (k := d + n) (w := w) (n1 := n1) (l3 := nI l3) (h3 := nI h3) (M := Mm4) (by omega) hw (by omega) (by omega) (rF_n0 f2 hf)
      rw [g1]
      exact ⟨f, j + 1 + 1, hf, by omega, ⟨Mc4, rfl, e2, (fA3.C (by omega)).tr e3.C⟩, M', rfl, wr f2 hf g2, (fB3.R ha).tr ((wR (by omega) f3).tr (fR g2))⟩
    rw [e1, f1]
    have fA4 : FC0 p c n Mc Mc4 := ⟨e4.1.trans fA3.1, fun u i q => by rw [e4.2 u i (by omega), fA3.2 u i q]⟩
    have fB4 : FM0 a d n Mm Mm4 := ⟨f4.1.trans fB3.1, fun u i q => by rw [f4.2 u i (by omega), fB3.2 u i q]⟩
    rcases jStg (Mc := Mc4) (Mm := Mm4) (c := c + 3) (k := n) (n0 := n0) (a := a + 3) (k1 := d + n) (n1 := n1) (lo := l3) (hi := h3) (E := cInc slot) (E' := rEnd (nI w)) hTX e2 f2 (by omega) (by omega) (by omega) hn (by omega) (by omega) (by omega) (by omega) (by omega) with ⟨f, hf, ⟨Mc5, k1, k2, k3⟩, Mm5, m1, m2, m3⟩ | ⟨x3, hx3, hy3, hjz3, ⟨Mc5, k1, k2, k3, k4⟩, Mm5, m1, m2, m3, m4⟩
    · left
      rw [k1, m1]
      obtain ⟨M', g1, g2⟩ := chF0 (a := a) (k := d + n) (w := w) (M := Mm5) hw (rF_n0 m2 hf)
      rw [g1]
      exact ⟨f, j + 1 + 1 + 1, hf, by omega, ⟨Mc5, rfl, k2, (fA4.C (by omega)).tr k3.C⟩, M', rfl, wr m2 hf g2, (fB4.R ha).tr ((wR (by omega) m3).tr (fR g2))⟩
    rw [k1, m1, rEnd_eq hw]
    have fA5 : FC0 p c n Mc Mc5 := ⟨k4.1.trans fA4.1, fun u i q => by rw [k4.2 u i (by omega), fA4.2 u i q]⟩
    have fB5 : FM0 a d n Mm Mm5 := ⟨m4.1.trans fB4.1, fun u i q => by rw [m4.2 u i (by omega), fB4.2 u i q]⟩
    have sl : Mc5.1 p slot = nI n := by rw [fA5.2 _ _ (by omega)]; exact hs
    have wl : Mm5.1 100 (9 + w) = nI n := by rw [fB5.2 _ _ (by omega)]; exact hw1
    unfold cInc
    rw [zgP_some k2.2.1 hpl, zlet_eq, sl, wl, nI_1]
    have X6 : cX (zI Mc5 p slot (nI (n + 1))) p N z b (j + 1 + 1 + 1 + 1) := ⟨hpl, k2.2.1, k2.2.2.1.mono (fun u i q1 q2 => zI_of (by omega)), by rw [zI_of (by omega)]; exact k2.2.2.2⟩
    have R6 : rX (zI Mm5 100 (9 + w) (nI (n + 1))) N b (j + 1 + 1 + 1 + 1) := ⟨by rw [zI_of (by omega)]; exact m2.1, m2.2.mono (zI_of (by omega)) (fun i _ _ => zI_of (by omega)) (fun i => zI_of (by omega))⟩
    rcases jEnd hTX X6 R6 (by omega) with ⟨f, hf, ⟨Mc6, q1, q2, q3⟩, Mm6, r1, r2, r3⟩ | ⟨hjz4, ⟨Mc6, q1, q2, q3⟩, Mm6, r1, r2, r3, r4⟩
    · left
      rw [q1, r1]
      refine ⟨f, j + 1 + 1 + 1 + 1, hf, by omega, ⟨Mc6, rfl, q2, q3.1.trans fA5.1, fun u i q => ?_⟩, Mm6, rfl, r2, r3.1.trans fB5.1, fun u i q => ?_⟩
      · rw [q3.2 u i (by omega), zI_of (by omega), fA5.2 u i (by omega)]
      · unfold FRc at q
        rw [r3.2 u i (by omega), zI_of (by omega), fB5.2 u i (by omega)]
    · right
      refine ⟨x0, x1, x2, x3, j + 1 + 1 + 1 + 1 + 1, ⟨hx1, hy1⟩, ⟨hx2, hy2⟩, ⟨hx3, hy3⟩, by omega, by omega, ⟨Mc6, q1, q2, ?_, ⟨?_, ?_, ?_, ?_⟩, q3.1.trans fA5.1, fun u i q => ?_⟩, Mm6, r1, r2, ?_, ⟨?_, ?_, ?_, ?_⟩, ?_, r4.1.trans fB5.1, fun u i q => ?_⟩
      · rw [q3.2 _ _ (by omega), zI_at]
      · rw [q3.2 _ _ (by omega), zI_of (by omega), k4.2 _ _ (by omega), e4.2 _ _ (by omega), c4.2 _ _ (by omega)]; exact v0
      · rw [q3.2 _ _ (by omega), zI_of (by omega), k4.2 _ _ (by omega), e4.2 _ _ (by omega)]; exact c3
      · rw [q3.2 _ _ (by omega), zI_of (by omega), k4.2 _ _ (by omega)]; exact e3
      · rw [q3.2 _ _ (by omega), zI_of (by omega)]; exact k3
      · rw [q3.2 u i (by omega), zI_of (by omega), fA5.2 u i (by omega)]
      · rw [r4.2 _ _ (by omega), zI_at]
      · rw [r4.2 _ _ (by omega), zI_of (by omega), m4.2 _ _ (by omega), f4.2 _ _ (by omega), d4.2 _ _ (by omega)]; exact u0
      · rw [r4.2 _ _ (by omega), zI_of (by omega), m4.2 _ _ (by omega), f4.2 _ _ (by omega)]; exact d3
      · rw [r4.2 _ _ (by omega), zI_of (by omega), m4.2 _ _ (by omega)]; exact f3
      · rw [r4.2 _ _ (by omega), zI_of (by omega)]; exact m3
      · unfold lnX at r3 ⊢
        rw [r3, zI_of (by omega), fB5.2 _ _ (by omega)]
      · rw [r4.2 u i (by omega), zI_of (by omega), fB5.2 u i (by omega)]
