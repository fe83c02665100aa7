theorem jLook {Mc Mm : zM} {p N z j n T L : Nat} {b : Nat → Nat} {P : AV} {sd : Nat → Bool} {LW : LWr} {out : List (Int32 × Int32)} (hTX : TX N z b) (hX : cX Mc p N z b (j + 1)) (hA : cAtt Mc N b j) (hR : rX Mm N b j) (hj : j ≤ z) (hK : tk N b j = 9) (hC : cPs Mc p n T L P sd LW out) (hM : mPs Mm n T L P sd LW out) (hI : aI n T L P LW out) :
    jF p N z b Mc Mm (gX5_readLook Mc) (gX10_line Mm) ∨ jOK p N z b Mc Mm j (gX5_readLook Mc) (gX10_line Mm) := by
  have ht := hTX.1
  have hp := isPl_lt hX.1
  have hpl := hX.1
  have hjz := hTX.lt hj (by omega)
  obtain ⟨C1, C2, C3, C4, C5, C6⟩ := hC
  obtain ⟨D1, D2, D3, D4, D5, D6, D7⟩ := hM
  have hs : Mc.1 p 10 = nI L := C1.2.2
  have hm : Mm.1 100 11 = nI L := D1.2.2
  obtain ⟨⟨i1, i2, i3, i4⟩, i5, i6, i7, i8, i9, i10⟩ := hI
  have hfull : gX10_isFull (nI 2) Mm = some (if L = 10 then 1 else 0) := by
    rw [m_full (fun _ => ⟨n, by omega, D1.1⟩) (fun _ => ⟨T, by omega, D1.2.1⟩) (fun _ => ⟨L, by omega, D1.2.2⟩) (by omega)]
    by_cases w : L = 10
    · rw [if_pos w, if_pos (by rw [D1.1, D1.2.1, D1.2.2]; subst w; exact Or.inr (Or.inr ⟨rfl, rfl⟩))]
    · rw [if_neg w, if_neg (fun q => w (by rw [hm] at q; rcases q with q | q | q <;> first | omega | (have := q.2; rw [nI_eqs (by omega) (by omega)] at this; exact this)))]
  unfold gX5_readLook
  rw [zgP_some hX.2.1 hpl, hs, if_neg (nI_pos (by omega))]
  by_cases hn : L < 10
  · rw [if_pos (show nI L < 10 from (nI_lt_iff (b := 10) (by omega) (by omega)).mpr hn)]
    rw [if_neg (by omega)] at hfull
    rw [m_line_01 ht hR (by omega) (by omega) hfull]
    obtain ⟨M7, g1, g2, g3, g4⟩ := m_J71 (w := 2) ht hR
    have hm7 : M7.1 100 11 = nI L := by rw [g4.2 _ _ (by omega)]; exact hm
    have et : rTail (nI 2) M7 = RLk (nI L) M7 := by
      have f7 : gX10_fresher 2 M7 = some (nI L) := by
        rw [show gX10_fresher 2 M7 = gX10_fresher (nI 2) M7 from rfl, m_fresher (by omega)]
        exact congrArg some hm7
      unfold rTail
      rw [if_neg (show ¬ nI 2 = 0 by decide), if_neg (show ¬ nI 2 = 1 by decide), if_pos (show nI 2 = 2 from rfl), zcI_some f7]
      rfl
    rw [g1, et]
    have h7 : ∀ a i, 99 ≤ a → M7.1 a i = Mm.1 a i := fun a i q => g4.2 a i (by omega)
    have hl := jLk (n := n) (L := L) hTX hX g2 hjz i1 hn C1.1 (by rw [h7 _ _ (by omega)]; exact D1.1) (fun k hk => by
        rw [C2 1 k (by omega) (pdN (by omega) (by omega) hk), h7 _ _ (by omega)]
        have := D2 1 k (by omega) (pdN (by omega) (by omega) hk)
        rw [pu_4 (by omega)] at this
        exact this.symm) hs hm7
    rcases hl with ⟨f, jf, hf, hjf, ⟨Mc', a1, a2, a3⟩, Mm', b1, b2, b3⟩ | ⟨m, x1, x2, j', hmn, hjj, hjz', ⟨Mc', a1, a2, a3, ⟨a4, a5, a6⟩, a8⟩, Mm', b1, b2, b3, ⟨b4, b5, b6⟩, b8, b9⟩
    · exact Or.inl ⟨f, jf, hf, hjf, ⟨Mc', a1, a2, a3⟩, Mm', b1, b2, g4.R.tr b3⟩
    · refine Or.inr ⟨n, T, L + 1, P3 P 9 L (nI m) (nI x1) (nI x2), sd, LW, out, j', by omega, hjz', ?_, ⟨Mc', a1, a2, ⟨⟨?_, ?_, ?_⟩, fun c k hc hd => ?_, fun k hk => ?_, C4.mono (fun a i q1 q2 => a8.2 a i (by omega)), C5.mono (a8.2 _ _ (by omega)) (fun i => a8.2 _ _ (by omega)) (fun i => a8.2 _ _ (by omega)), by rw [a8.2 _ _ (by omega)]; exact C6⟩, ⟨a8.1, fun a i q => a8.2 a i (by omega)⟩, a8.2 _ _ (by omega), a8.2 _ _ (by omega)⟩, Mm', b1, b2, ⟨⟨?_, ?_, ?_⟩, fun c k hc hd => ?_, (D3.or (w := 2) (by omega) g3).mono (b9.2 _ _ (by omega)), D4.mono (fun a i q1 q2 => by rw [b9.2 a i (by omega), h7 _ _ (by omega)]), D5.mono (by rw [b9.2 _ _ (by omega), h7 _ _ (by omega)]) (fun i => by rw [b9.2 _ _ (by omega), h7 _ _ (by omega)]) (fun i => by rw [b9.2 _ _ (by omega), h7 _ _ (by omega)]), by rw [b9.2 _ _ (by omega), g4.2 _ _ (by omega)]; exact D6, by rw [b9.2 _ _ (by omega), g4.2 _ _ (by omega)]; exact D7⟩, ?_, g4.R.tr ⟨b9.1, fun a i q => b9.2 a i (fun w => q (by unfold FRc; omega))⟩⟩
      · refine ⟨⟨i1, i2, by omega, i4⟩, fun k hk => ?_, fun k hk => ?_, fun k hk => ?_, ?_, ?_, i10⟩
        · rw [P3_old (by omega)]; exact i5 k hk
        · rw [P3_old (by omega), P3_old (by omega)]; exact i6 k hk
        · by_cases e : k = L
          · subst e; exact ⟨m, hmn, P3_1⟩
          · rw [P3_old (by omega)]; exact i7 k (by omega)
        · rw [P3_old (by omega)]; exact i8
        · rw [P3_old (by omega)]; exact i9
      · rw [a8.2 _ _ (by omega)]; exact C1.1
      · rw [a8.2 _ _ (by omega)]; exact C1.2.1
      · exact a3
      · rcases pdim_L hc hd with e | e
        · obtain ⟨ec, ec2, rfl⟩ := e
          rcases (show c = 9 ∨ c = 9 + 1 ∨ c = 9 + 2 by omega) with rfl | rfl | rfl
          · rw [P3_1]; exact a4
          · rw [P3_2 (c := 9)]; exact a5
          · rw [P3_3 (c := 9)]; exact a6
        · have lt := pdim_lt hc e
          rw [P3_old (by omega), a8.2 _ _ (by omega)]
          exact C2 c k hc e
      · rw [a8.2 _ _ (by omega)]; exact C3 k hk
      · rw [b9.2 _ _ (by omega), h7 _ _ (by omega)]; exact D1.1
      · rw [b9.2 _ _ (by omega), h7 _ _ (by omega)]; exact D1.2.1
      · exact b3
      · rcases pdim_L hc hd with e | e
        · obtain ⟨ec, ec2, rfl⟩ := e
          rw [pu_11 (by omega)]
          rcases (show c = 9 ∨ c = 9 + 1 ∨ c = 9 + 2 by omega) with rfl | rfl | rfl
          · rw [P3_1]; exact b4
          · rw [P3_2 (c := 9)]; exact b5
          · rw [P3_3 (c := 9)]; exact b6
        · have lt := pdim_lt hc e
          rw [P3_old (by omega), ← D2 c k hc e]
          rcases lt with q | q | q | q
          · rw [pu_4 (by omega), b9.2 _ _ (by omega), h7 _ _ (by omega)]
          · rw [pu_8 (by omega), b9.2 _ _ (by omega), h7 _ _ (by omega)]
          · rw [pu_11 (by omega), b9.2 _ _ (by omega), h7 _ _ (by omega)]
          · rw [q.1, pu_12, b9.2 _ _ (by omega), h7 _ _ (by omega)]
      · unfold lnX at b8 ⊢
        rw [b8, g4.2 _ _ (by omega)]
  · left
    rw [if_neg (show ¬ nI L < 10 from fun q => hn ((nI_lt_iff (b := 10) (by omega) (by omega)).mp q))]
    rw [if_pos (show L = 10 by omega)] at hfull
    obtain ⟨Mm', b1, b2, b3⟩ := m_full_no ht hR (by omega) (show tk N b j = 7 + 2 by omega) hfull
    obtain ⟨Mc', a1, a2, a3⟩ := c_fails 2 hA
    unfold gX5_readLook_J18
    rw [zcIM_some (show gX5_fails 2 Mc = _ from a1), zb0]
    exact ⟨2, j, ⟨by omega, by omega⟩, hj, ⟨Mc', rfl, a2, a3.1, fun a i q => a3.2 a i (by omega)⟩, Mm', b1, b2, b3.R⟩
/-! ===== lines: crowd, heat, gust, risk, seed ===== -/
def mxS (s : Nat) : Nat := ([999, 9, 100, 100, 99999] : List Nat).getD s 0
theorem zc1_at {s : Nat} (h : s < 5) : zc1 s = nI (mxS s) ∧ mxS s ≤ 99999 ∧ (s = 2 → mxS s = 100) ∧ (s = 3 → mxS s = 100) := by
  rcases (show s = 0 ∨ s = 1 ∨ s = 2 ∨ s = 3 ∨ s = 4 by omega) with rfl | rfl | rfl | rfl | rfl <;> decide
theorem rt_set {s : Nat} (h : s < 5) {M7 : zM} : rTail (nI (3 + s)) M7 = zcIM (gX10_numeral (nI 0) (nI (mxS s)) M7) (fun v M' => zcV (gX10_reads (nI (3 + s)) v M') (fun M'' => gX10_line_J458 M'')) := by
  rcases (show s = 0 ∨ s = 1 ∨ s = 2 ∨ s = 3 ∨ s = 4 by omega) with rfl | rfl | rfl | rfl | rfl
  · rfl
  · rfl
  · rfl
  · rfl
  · rfl
theorem rs_eq {w : Nat} (hw : w < 9) {lo hi : Int32} {M7 : zM} : zcIM (gX10_numeral lo hi M7) (fun v M' => zcV (gX10_reads (nI w) v M') (fun M'' => gX10_line_J458 M'')) = rStg 100 (nI (9 + w)) 18 lo hi gX10_line_J458 M7 := by
  unfold rStg
  have e : (fun (v : Int32) (M' : zM) => zcV (gX10_reads (nI w) v M') (fun M'' => gX10_line_J458 M'')) = fun v M' => zg (zok (nI (9 + w)) 18) (zlet (zI M' 100 ((nI (9 + w)) : Int32).toNatClampNeg v) gX10_line_J458) := by
    funext v M'
    rw [zcV_some (m_reads hw), zg_true (zok_nI (by omega) (by omega)), zlet_eq, nI_cl (by omega)]
  rw [e]
theorem jSet {Mc Mm : zM} {p N z j n T L s : Nat} {b : Nat → Nat} {P : AV} {sd : Nat → Bool} {LW : LWr} {out : List (Int32 × Int32)} (hTX : TX N z b) (hX : cX Mc p N z b (j + 1)) (hA : cAtt Mc N b j) (hR : rX Mm N b j) (hj : j ≤ z) (hs : s < 5) (hK : tk N b j = 10 + s) (hC : cPs Mc p n T L P sd LW out) (hM : mPs Mm n T L P sd LW out) (hI : aI n T L P LW out) :
    jF p N z b Mc Mm (gX5_readSetting (nI s) Mc) (gX10_line Mm) ∨ jOK p N z b Mc Mm j (gX5_readSetting (nI s) Mc) (gX10_line Mm) := by
  have ht := hTX.1
  have hp := isPl_lt hX.1
  have hpl := hX.1
  have hjz := hTX.lt hj (by omega)
  obtain ⟨C1, C2, C3, C4, C5, C6⟩ := hC
  obtain ⟨D1, D2, D3, D4, D5, D6, D7⟩ := hM
  obtain ⟨⟨i1, i2, i3, i4⟩, i5, i6, i7, i8, i9, i10⟩ := hI
  obtain ⟨z1, z2, z3, z4⟩ := zc1_at hs
  have hfull : gX10_isFull (nI (3 + s)) Mm = some 0 := by
    rw [m_full (fun _ => ⟨n, by omega, D1.1⟩) (fun _ => ⟨T, by omega, D1.2.1⟩) (fun _ => ⟨L, by omega, D1.2.2⟩) (by omega), if_neg (by omega)]
  have go : gX10_line Mm = (if ((((Mm.1 98 19) : Int32) >>> (((nI (3 + s)) : Int32) &&& 31)) &&& 1) = 1 then zcV (gX10_wrong 3 Mm) (fun M132_ => gX10_line_J71 (nI (3 + s)) M132_) else gX10_line_J71 (nI (3 + s)) Mm) := by
    rw [m_line_go ht hR (w := 3 + s) (by omega) (by omega), zcI_some hfull, if_pos rfl, if_neg (show ¬ nI (3 + s) < 3 from fun q => by have := (nI_lt_iff (b := 3) (by omega) (by omega)).mp q; omega), if_neg (show ¬ 7 < nI (3 + s) from fun q => by have := (nI_lt_iff (a := 7) (by omega) (by omega)).mp q; omega)]
  unfold gX5_readSetting
  rw [if_neg (nI_pos (by omega)), if_pos (show nI s < 5 from (nI_lt_iff (b := 5) (by omega) (by omega)).mpr hs), zgP_some hX.2.1 hpl, zg_true (zok_nI hs (by omega)), nI_cl (by omega), C3 s hs, go]
  cases hsd : sd s with
  | true =>
    left
    rw [if_neg (show ¬ b2i true = 0 by decide), if_pos ((bit_rd (by omega)).mpr (by rw [D3.1 s hs, hsd]))]
    obtain ⟨Mc', a1, a2, a3⟩ := c_fails 3 hA
    obtain ⟨Mm', b1, b2, b3⟩ := m_wrongX 3 hR
    rw [zcIM_some (show gX5_fails 3 Mc = _ from a1), zb0, zcV_some (show gX10_wrong 3 Mm = _ from b1), J71_F (rF_n0 b2 ⟨by omega, by omega⟩)]
    exact ⟨3, j, ⟨by omega, by omega⟩, hj, ⟨Mc', rfl, a2, a3.1, fun a i q => a3.2 a i (by omega)⟩, Mm', rfl, b2, b3.R⟩
  | false =>
    rw [if_pos b2i_f, if_neg (fun q => by rw [bit_rd (by omega), D3.1 s hs, hsd] at q; cases q), zgP_some hX.2.1 hpl, zg_true (zok_nI hs (by omega)), zlet_eq, zg_true (zok_nI hs (by omega)), z1]
    obtain ⟨M7, g1, g2, g3, g4⟩ := m_J71 (w := 3 + s) ht hR
    have h7 : ∀ a i, 99 ≤ a → M7.1 a i = Mm.1 a i := fun a i q => g4.2 a i (by omega)
    rw [g1, rt_set hs, rs_eq (by omega)]
    have X2 : cX (zI Mc (p + 13) s 1) p N z b (j + 1) := ⟨hpl, hX.2.1, hX.2.2.1.mono (fun u i q1 q2 => zI_of (by omega)), by rw [zI_of (by omega)]; exact hX.2.2.2⟩
    have e12 : ∀ M, zcIM (gX5_readsNumber 0 (nI (mxS s)) M) (fun v14_ M15_ => (if v14_ = 0 then some (0, M15_) else zgP (M15_.2.2 47 3) (fun p17_ => zg (zok (nI s) 5) (zlet (zI M15_ (p17_ + 12) s (M15_.1 47 7)) (fun M20_ => zcIM (gX5_reads 4 M20_) (fun v22_ M23_ => zg (zbit v22_) (some (v22_, M23_)))))))) = cStg 12 (nI s) 5 (nI 0) (nI (mxS s)) cEnd M := fun M => by
      unfold cStg
      rw [nI_cl (by omega)]
      rfl
    rw [e12, show vp_nar .boolean (1 : Int32) = 1 by decide]
    show jF p N z b Mc Mm (cStg 12 (nI s) 5 (nI 0) (nI (mxS s)) cEnd (zI Mc (p + 13) s 1)) _ ∨ jOK p N z b Mc Mm j (cStg 12 (nI s) 5 (nI 0) (nI (mxS s)) cEnd (zI Mc (p + 13) s 1)) _
    rcases jStg (Mc := zI Mc (p + 13) s 1) (Mm := M7) (c := 12) (k := s) (n0 := 5) (a := 100) (k1 := 9 + (3 + s)) (n1 := 18) (lo := 0) (hi := mxS s) (E := cEnd) (E' := gX10_line_J458) hTX X2 g2 hjz z2 (by omega) hs (by omega) (by omega) (by omega) (by omega) (by omega) with ⟨f, hf, ⟨Mc3, c1, c2, c3⟩, Mm3, d1, d2, d3⟩ | ⟨x, hx1, hx2, hjz1, ⟨Mc3, c1, c2, c3, c4⟩, Mm3, d1, d2, d3, d4⟩
    · left
      rw [c1, d1, J458_F (rF_n0 d2 hf)]
      exact ⟨f, j + 1, hf, hjz, ⟨Mc3, rfl, c2, c3.1, fun a i q => by rw [c3.2 a i (by omega), zI_of (by omega)]⟩, Mm3, rfl, d2, g4.R.tr ⟨d3.1, fun a i q => d3.2 a i (fun w => q (by unfold FRc; omega))⟩⟩
    · rw [c1, d1]
      rcases jEnd hTX c2 d2 (by omega) with ⟨f, hf, ⟨Mc6, q1, q2, q3⟩, Mm6, r1, r2, r3⟩ | ⟨hjz4, ⟨Mc6, q1, q2, q3⟩, Mm6, r1, r2, r3, r4⟩
      · left
        rw [q1, r1]
        refine ⟨f, j + 1 + 1, hf, by omega, ⟨Mc6, rfl, q2, q3.1.trans c4.1, fun a i q => ?_⟩, Mm6, rfl, r2, g4.R.tr ⟨r3.1.trans d4.1, fun a i q => ?_⟩⟩
        · rw [q3.2 a i (by omega), c4.2 a i (by omega), zI_of (by omega)]
        · unfold FRc at q
          rw [r3.2 a i (by omega), d4.2 a i (by omega)]
      · right
        have kc : ∀ a i, ¬ ((a = 47 ∧ 4 ≤ i ∧ i ≤ 7) ∨ (a = p + 12 ∧ i = s) ∨ (a = p + 13 ∧ i = s)) → Mc6.1 a i = Mc.1 a i := fun a i q => by rw [q3.2 a i (by omega), c4.2 a i (by omega), zI_of (by omega)]
        have km : ∀ a i, ¬ ((a = 98 ∧ (i = 20 ∨ (22 ≤ i ∧ i ≤ 27))) ∨ (a = 100 ∧ i = 9 + (3 + s))) → Mm6.1 a i = M7.1 a i := fun a i q => by rw [r4.2 a i (by omega), d4.2 a i (by omega)]
        have vo : ∀ c k, ¬ (c = 12 ∧ k = s) → vset P 12 s (nI x) c k = P c k := fun c k q => if_neg q
        have vn : vset P 12 s (nI x) 12 s = nI x := if_pos ⟨rfl, rfl⟩
        refine ⟨n, T, L, vset P 12 s (nI x), fun k => sd k || decide (k = s), LW, out, j + 1 + 1 + 1, by omega, by omega, ?_, ⟨Mc6, q1, q2, ⟨⟨?_, ?_, ?_⟩, fun c k hc hd => ?_, fun k hk => ?_, C4.mono (fun a i q1 q2 => kc a i (by omega)), C5.mono (kc _ _ (by omega)) (fun i => kc _ _ (by omega)) (fun i => kc _ _ (by omega)), by rw [kc _ _ (by omega)]; exact C6⟩, ⟨q3.1.trans c4.1, fun a i q => kc a i (by omega)⟩, kc _ _ (by omega), kc _ _ (by omega)⟩, Mm6, r1, r2, ⟨⟨?_, ?_, ?_⟩, fun c k hc hd => ?_, ⟨fun k hk => ?_, fun u hu => ?_⟩, D4.mono (fun a i q1 q2 => by rw [km a i (by omega), h7 _ _ (by omega)]), D5.mono (by rw [km _ _ (by omega), h7 _ _ (by omega)]) (fun i => by rw [km _ _ (by omega), h7 _ _ (by omega)]) (fun i => by rw [km _ _ (by omega), h7 _ _ (by omega)]), by rw [km _ _ (by omega), g4.2 _ _ (by omega)]; exact D6, by rw [km _ _ (by omega), g4.2 _ _ (by omega)]; exact D7⟩, ?_, g4.R.tr ⟨r4.1.trans d4.1, fun a i q => ?_⟩⟩
        · refine ⟨⟨i1, i2, i3, i4⟩, fun k hk => by rw [vo _ _ (by omega)]; exact i5 k hk, fun k hk => by rw [vo _ _ (by omega), vo _ _ (by omega)]; exact i6 k hk, fun k hk => by rw [vo _ _ (by omega)]; exact i7 k hk, ?_, ?_, i10⟩
          · by_cases e : s = 3
            · subst e; exact ⟨x, by have := z4 rfl; omega, vn⟩
            · rw [vo _ _ (by omega)]; exact i8
          · by_cases e : s = 2
            · subst e; exact ⟨x, by have := z3 rfl; omega, vn⟩
            · rw [vo _ _ (by omega)]; exact i9
        · rw [kc _ _ (by omega)]; exact C1.1
        · rw [kc _ _ (by omega)]; exact C1.2.1
        · rw [kc _ _ (by omega)]; exact C1.2.2
        · by_cases e : c = 12 ∧ k = s
          · rw [e.1, e.2, vn, q3.2 _ _ (by omega)]; exact c3
          · have lt := pdim_lt hc hd
            rw [vo _ _ e, kc _ _ (by omega)]
            exact C2 c k hc hd
        · by_cases e : k = s
          · show _ = b2i (sd k || decide (k = s))
            rw [e, q3.2 _ _ (by omega), c4.2 _ _ (by omega), zI_at, decide_eq_true rfl, Bool.or_true]; rfl
          · show _ = b2i (sd k || decide (k = s))
            rw [kc _ _ (by omega), C3 k hk, decide_eq_false e, Bool.or_false]
        · rw [km _ _ (by omega), h7 _ _ (by omega)]; exact D1.1
        · rw [km _ _ (by omega), h7 _ _ (by omega)]; exact D1.2.1
        · rw [km _ _ (by omega), h7 _ _ (by omega)]; exact D1.2.2
        · by_cases e : c = 12 ∧ k = s
          · rw [e.1, e.2, vn, pu_12, r4.2 _ _ (by omega), show 12 + s = 9 + (3 + s) by omega]; exact d3
          · have lt := pdim_lt hc hd
            rw [vo _ _ e, ← D2 c k hc hd]
            rcases lt with q | q | q | q
            · rw [pu_4 (by omega), km _ _ (by omega), h7 _ _ (by omega)]
            · rw [pu_8 (by omega), km _ _ (by omega), h7 _ _ (by omega)]
            · rw [pu_11 (by omega), km _ _ (by omega), h7 _ _ (by omega)]
            · rw [q.1, pu_12, km _ _ (by omega), h7 _ _ (by omega)]
        · rw [km _ _ (by omega), g3, bit_or (by omega) (by omega), D3.1 k hk]
          congr 1
          by_cases e : k = s
          · rw [decide_eq_true (by omega), decide_eq_true e]
          · rw [decide_eq_false (by omega), decide_eq_false e]
        · rw [km _ _ (by omega), g3, bit_or (by omega) (by omega), D3.2 u hu, decide_eq_false (by omega), Bool.or_false]
        · unfold lnX at r3 ⊢
          rw [r3, d4.2 _ _ (by omega), g4.2 _ _ (by omega)]
        · unfold FRc at q
          rw [km a i (by omega)]
