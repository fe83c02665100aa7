/-! comesBack -/
def cbM : zM := (fun _ _ => 0, fun _ _ => 0, fun _ _ => none)
def pw (a : Int64) : Nat → Int64
  | 0 => 1
  | k + 1 => pw a k * a
def cbOK (r n : Nat) : Bool := match gX9_commonDivisor 100 (100 - nI r) cbM, gX10_common (pw (100 - (nI r).toInt64) n) (pw 100 n) cbM with
  | some v, some g => decide (¬ v ≤ 0) && znz v && znzL g && decide (pw (100 - (nI r).toInt64) n / g = pw ((100 - nI r) / v).toInt64 n) && decide (pw 100 n / g = pw (100 / v).toInt64 n)
  | _, _ => false
set_option maxRecDepth 100000 in
theorem cb_all : (List.range 101).all (fun r => (List.range 7).all (fun n => cbOK r n)) = true := by decide +kernel
theorem cb_at {r n : Nat} (hr : r ≤ 100) (hn : n ≤ 6) : ∃ v g, gX9_commonDivisor 100 (100 - nI r) cbM = some v ∧ gX10_common (pw (100 - (nI r).toInt64) n) (pw 100 n) cbM = some g ∧ ¬ v ≤ 0 ∧ znz v = true ∧ znzL g = true ∧ pw (100 - (nI r).toInt64) n / g = pw ((100 - nI r) / v).toInt64 n ∧ pw 100 n / g = pw (100 / v).toInt64 n := by
  have h : cbOK r n = true := by
    have := List.all_eq_true.mp cb_all r (List.mem_range.mpr (by omega))
    exact List.all_eq_true.mp this n (List.mem_range.mpr (by omega))
  unfold cbOK at h
  generalize e1 : gX9_commonDivisor 100 (100 - nI r) cbM = o1 at h
  generalize e2 : gX10_common (pw (100 - (nI r).toInt64) n) (pw 100 n) cbM = o2 at h
  cases o1 with
  | none => cases h
  | some v =>
    cases o2 with
    | none => cases h
    | some g =>
      dsimp only at h
      rw [Bool.and_eq_true, Bool.and_eq_true, Bool.and_eq_true, Bool.and_eq_true] at h
      obtain ⟨⟨⟨⟨h1, h2⟩, h3⟩, h4⟩, h5⟩ := h
      exact ⟨v, g, rfl, rfl, of_decide_eq_true h1, h2, h3, of_decide_eq_true h4, of_decide_eq_true h5⟩
theorem cb_c (a b : Int32) (M : zM) : gX9_commonDivisor a b M = gX9_commonDivisor a b cbM := rfl
theorem cb_m (a b : Int64) (M : zM) : gX10_common a b M = gX10_common a b cbM := rfl
theorem cb_pw {n : Nat} {y : Int64} {M : zM} (hn : n ≤ 6) : gX9_comesBack_J73 (nI n) y M = some (pw y n) := by
  unfold gX9_comesBack_J73
  refine zfix_run (fun k => (pw y k, nI k)) n (by rw [nI_0]; rfl) (by unfold zFu; omega) ?_ ?_
  · intro k hk rc
    unfold gX9_comesBack_L81
    dsimp only
    rw [if_neg (nI_ge hk (by omega)), nI_1]
    rfl
  · intro rc
    unfold gX9_comesBack_L81
    dsimp only
    rw [if_pos (nI_le (Nat.le_refl _) (by omega))]
theorem k_comesBack {M : zM} (h : Rel M) (x y : Int32) : ∃ r M2, gX9_comesBack x y M = some r ∧ gX10_comesBack x y M = some (r, M2) ∧ Rel M2 := by
  have h' := h
  obtain ⟨q, V, I, D, S, B, F, hA, hC, hM⟩ := h
  have hz := hM.z (y := 0)
  obtain ⟨p, c1, c2, c3, c4⟩ := hC
  unfold gX9_comesBack gX10_comesBack
  rw [zlet_eq (zI M 98 0 0)]
  by_cases h1 : x < 0
  · rw [if_pos h1, if_pos h1]; exact ⟨_, _, rfl, rfl, h'.z⟩
  rw [if_neg h1, if_neg h1]
  by_cases h2 : 6 < x
  · rw [if_pos h2, if_pos h2]; exact ⟨_, _, rfl, rfl, h'.z⟩
  rw [if_neg h2, if_neg h2]
  by_cases h3 : y < 0
  · rw [if_pos h3, if_pos h3]; exact ⟨_, _, rfl, rfl, h'.z⟩
  rw [if_neg h3, if_neg h3]
  by_cases h4 : y ≤ 1
  · rw [if_pos h4, if_pos h4]
    obtain ⟨n, hn, rfl⟩ := cnt_of (n := 6) (x := x) (lit := 6) (by decide) (by omega) h1 (Int32.not_lt.mp h2)
    obtain ⟨r, hr, er⟩ := hA.1.2.1.1
    obtain ⟨v, g, b1, b2, b3, b4, b5, b6, b7⟩ := cb_at hr hn
    have p3 : M.1 (p + 12) (3 : Int32).toNatClampNeg = nI r := by rw [← er]; exact c2.ss (k := 3) (by omega)
    have m6 : (zI M 98 0 0).1 100 (6 : Int32).toNatClampNeg = nI r := by rw [← er]; exact hz.2.1.ss (k := 3) (by omega)
    rw [zgP_some c1.1 c2.1.1, zlet_eq, p3, zcI_some (show gX9_commonDivisor 100 (100 - nI r) M = some v from b1)]
    refine ⟨(if y = 0 then pw ((100 - nI r) / v).toInt64 n else pw (100 / v).toInt64 n), zI M 98 0 0, ?_, ?_, h'.z⟩
    · unfold gX9_comesBack_J54
      rw [if_neg b3, if_neg b3, zg_true b4, zg_true b4, cb_pw hn, cb_pw hn]
      split <;> rfl
    · refine zfix_run (fun k => (pw (100 - (nI r).toInt64) k, pw 100 k, nI k)) n (by rw [nI_0]; rfl) (by unfold zFu; omega) ?_ ?_
      · intro k hk rc
        unfold gX10_comesBack_L36
        dsimp only
        rw [if_neg (nI_ge hk (by omega)), nI_1, m6]
        rfl
      · intro rc
        unfold gX10_comesBack_L36
        dsimp only
        rw [if_pos (nI_le (Nat.le_refl _) (by omega)), zcL_some (show gX10_common (pw (100 - (nI r).toInt64) n) (pw 100 n) (zI M 98 0 0) = some g from b2), zg_true b5, zg_true b5, b6, b7]
        split <;> rfl
  · rw [if_neg h4, if_neg h4]; exact ⟨_, _, rfl, rfl, h'.z⟩
/-! feed -/
theorem g255 (i : Nat) (hi : i < 32) : (255#32).getLsbD i = decide (i < 8) := by
  have : ∀ i : Fin 32, (255#32).getLsbD i.val = decide (i.val < 8) := by decide
  exact this ⟨i, hi⟩
theorem byte8 (v : BitVec 32) (n : Nat) (hn : n ≤ 24) : ((BitVec.signExtend 32 (BitVec.signExtend 8 (BitVec.signExtend 32 (BitVec.signExtend 8 (v >>> n))))) &&& 255#32) = (v.sshiftRight n) &&& 255#32 := by
  apply BitVec.eq_of_getLsbD_eq
  intro i hi
  rw [BitVec.getLsbD_and, BitVec.getLsbD_and]
  by_cases h : i < 8
  · have : n + i < 32 := by omega
    congr 1
    rw [BitVec.getLsbD_signExtend, BitVec.getLsbD_sshiftRight]
    simp only [hi, h, this, decide_true, if_true, Bool.true_and, BitVec.getLsbD_signExtend, BitVec.getLsbD_ushiftRight]
    simp [hi]
  · rw [g255 i hi, decide_eq_false h, Bool.and_false, Bool.and_false]
def bytec (x : Int32) (k : Nat) : Int32 := ((x.toUInt32 >>> (((24 - (8 * nI k)) : Int32).toUInt32 &&& Int32.toUInt32 31)).toInt32).toInt8.toInt32.toInt8.toInt32
def bytem (x : Int32) (k : Nat) : Int32 := ((x : Int32) >>> (((24 - (8 * nI k)) : Int32) &&& 31)) &&& 255
theorem byte_sh (x : Int32) (k n : Nat) (hn : n ≤ 24) (e1 : (((24 - (8 * nI k)) : Int32).toUInt32 &&& Int32.toUInt32 31) = UInt32.ofNat n) (e2 : (((24 - (8 * nI k)) : Int32) &&& 31) = nI n) : bytec x k &&& 255 = bytem x k := by
  unfold bytec bytem
  rw [e1, e2]
  apply Int32.toBitVec_inj.mp
  have h1 : (x.toUInt32 >>> UInt32.ofNat n).toBitVec = x.toBitVec >>> n := by
    rw [UInt32.toBitVec_shiftRight]
    have : ((UInt32.ofNat n).toBitVec % 32#32).toNat = n := by
      simp
      omega
    show x.toBitVec >>> ((UInt32.ofNat n).toBitVec % 32#32).toNat = _
    rw [this]
  have h2 : (x >>> nI n).toBitVec = x.toBitVec.sshiftRight n := by
    rw [Int32.toBitVec_shiftRight]
    have : ((nI n).toBitVec.smod 32).toNat = n := by
      rcases (show n < 25 by omega) with _
      have : ∀ m : Fin 25, ((nI m.val).toBitVec.smod 32).toNat = m.val := by decide
      exact this ⟨n, by omega⟩
    show x.toBitVec.sshiftRight ((nI n).toBitVec.smod 32).toNat = _
    rw [this]
  have h3 := byte8 x.toBitVec n hn
  rw [← h1, ← h2] at h3
  rw [Int32.toBitVec_and, Int32.toBitVec_and, Int8.toBitVec_toInt32, Int32.toBitVec_toInt8, Int8.toBitVec_toInt32, Int32.toBitVec_toInt8]
  exact h3
theorem byte_eq (x : Int32) (k : Nat) (h : k < 4) : bytec x k &&& 255 = bytem x k := by
  rcases (show k = 0 ∨ k = 1 ∨ k = 2 ∨ k = 3 by omega) with rfl | rfl | rfl | rfl
  · exact byte_sh x 0 24 (by omega) (by decide) (by decide)
  · exact byte_sh x 1 16 (by omega) (by decide) (by decide)
  · exact byte_sh x 2 8 (by omega) (by decide) (by decide)
  · exact byte_sh x 3 0 (by omega) (by decide) (by decide)
theorem byte_le (x : Int32) (k : Nat) : ∃ b, b ≤ 255 ∧ bytem x k = nI b := by
  refine ⟨(bytem x k).toBitVec.toNat, ?_, ?_⟩
  · show (_ &&& 255#32 : BitVec 32).toNat ≤ 255
    rw [BitVec.toNat_and]
    exact Nat.and_le_right
  · apply Int32.toBitVec_inj.mp
    show _ = BitVec.ofNat 32 _
    rw [BitVec.ofNat_toNat, BitVec.setWidth_eq]
theorem CR.tp {M M' : zM} {q : PPt} {V : AV} {I : Option AV} {D : Nat × (Nat → AV)} {S : SSt} {B B' : Nat × (Nat → Int32)} {F : Int32 × Int32} (h : CR M q V I D S B F) (he : ∀ a i, dC a → ¬ (a = 0 ∧ i = 1) → a ≠ 1 → M'.1 a i = M.1 a i) (hr : ∀ a, a < 98 → M'.2.2 a = M.2.2 a) (hs : cTp M' B') : CR M' q V I D S B' F := by
  obtain ⟨p, h1, h2, h3, h4, h5, h6, h7, h8⟩ := h
  have hpl := zisPl_of h2.1.1
  unfold isPl at hpl
  have g : ∀ a i, ((a = 0 ∧ i ≠ 1) ∨ (75 ≤ a ∧ a ≤ 93)) → M'.1 a i = M.1 a i := fun a i z => he a i (by unfold dC; omega) (by omega) (by omega)
  exact ⟨p, ⟨by rw [hr 0 (by omega)]; exact h1.1, by rw [hr 55 (by omega)]; exact h1.2.1, by rw [hr 0 (by omega)]; exact h1.2.2⟩, h2.mono (fun a i z1 z2 => he a i (pl_dC h2.1.1 z1 z2) (by omega) (by omega)), h3.mono (fun a i z1 z2 z3 => he a i (by unfold dC; omega) (by omega) (by omega)), h4.mono (g _ _ (by omega)) (fun a i z1 z2 => g a i (by omega)) (by rw [hr 75 (by omega)]), h5.mono (fun a i z1 z2 => g a i (by omega)), h6.mono (fun a i z1 z2 => g a i (by omega)), hs, h8.mono (g _ _ (by omega)) (g _ _ (by omega))⟩
theorem MR.gen {M M' : zM} {q : PPt} {V : AV} {I : Option AV} {D : Nat × (Nat → AV)} {S S' : SSt} {B B' : Nat × (Nat → Int32)} {F F' : Int32 × Int32} (h : MR M q V I D S B F) (he : ∀ a i, dM a i → (100 ≤ a ∧ a ≤ 131) ∨ (a = 98 ∧ 49 ≤ i ∧ i ≤ 52) → M'.1 a i = M.1 a i) (hs : mSi M' S') (ht : mTp M' B') (hf : mFt M' F') : MR M' q V I D S' B' F' := by
  obtain ⟨h1, h2, h3, h4, h5, h6, h7, h8⟩ := h
  have hn : q.1 ≤ 6 := h2.1.1.2
  have hT : q.2.1 ≤ 8 := h2.1.2.1.2
  have ev : ∀ f J, f ≠ 1 → mV M q f J → mV M' q f J := fun f J hf1 hJ => by
    unfold mV at hJ ⊢
    rw [← hJ]
    refine vM_keeps (fun c k hd => he _ _ (ma_dM hn hT hd hf1) ?_) (he _ _ (by unfold dM; omega) (by omega)) (he _ _ (by unfold dM; omega) (by omega))
    have a1 := ma_ge (f := f) hd
    have a2 : (ma f c k).1 ≤ 131 := by
      rcases vdim_cases hd with ⟨rfl, b1, b2⟩ | ⟨b1, b2, b3⟩ | ⟨b1, b2, b3⟩
      · rw [(ma_0 b1 b2).2]; repeat' split
        all_goals omega
      · rw [(ma_m b1 b2).2]; split <;> omega
      · rw [(ma_t b1 b2).2]; omega
    omega
  exact ⟨⟨by rw [he _ _ (by unfold dM; omega) (by omega)]; exact h1.1, by rw [he _ _ (by unfold dM; omega) (by omega)]; exact h1.2⟩, h2.mono (fun a i z1 z2 => he a i (by unfold dM; omega) (by omega)), ev _ _ (by omega) h3, ⟨by rw [he _ _ (by unfold dM; omega) (by omega)]; exact h4.1, fun J hJ => ev _ _ (by omega) (h4.2 J hJ)⟩, ⟨by rw [he _ _ (by unfold dM; omega) (by omega)]; exact h5.1, h5.2.1, fun k hk => ev _ _ (by omega) (h5.2.2 k hk)⟩, hs, ht, hf⟩
theorem bytec_nar (x : Int32) (k : Nat) : (vp_nar .byte ((((x : Int32).toUInt32 >>> (((24 - (8 * nI k)) : Int32).toUInt32 &&& Int32.toUInt32 31)).toInt32 : Int32).toInt8.toInt32)) = bytec x k := by
  rw [vp_nar_byte]; rfl
theorem litF : (4 : Int32) = nI 4 := by decide
theorem lit700 : (700 : Int32) = nI 700 := by decide
theorem c_put4 {M : zM} {d : Nat} {x : Int32} (hd : d + 4 ≤ 700) : ∃ M', gX9_putFour (nI d) x M = some M' ∧ M'.2 = M.2 ∧ (∀ a i, ¬ (a = 1 ∧ d ≤ i ∧ i < d + 4) → M'.1 a i = M.1 a i) ∧ ∀ k, k < 4 → M'.1 1 (d + k) = bytec x k := by
  unfold gX9_putFour
  rw [if_neg (nI_pos (by omega)), litF, nI_add, lit700, if_pos (nI_le hd (by omega))]
  obtain ⟨s', N', ⟨Mk, rfl, g1, g2, g3⟩, e⟩ := zfix_inv (B := gX9_putFour_L16 (nI d) x) (fun k s => ∃ Mk : zM, s = (nI k, Mk) ∧ Mk.2 = M.2 ∧ (∀ a i, ¬ (a = 1 ∧ d ≤ i ∧ i < d + k) → Mk.1 a i = M.1 a i) ∧ ∀ j, j < k → Mk.1 1 (d + j) = bytec x j) 4 (fun k hk s hs => by
      obtain ⟨Mk, rfl, g1, g2, g3⟩ := hs
      refine ⟨(nI (k + 1), zI Mk 1 (d + k) (bytec x k)), ⟨_, rfl, g1, fun a i z => ?_, fun j hj => ?_⟩, fun rc => ?_⟩
      · rw [zI_of (by omega), g2 a i (by omega)]
      · by_cases e : j = k
        · subst e; rw [zI_at]
        · rw [zI_of (by omega), g3 j (by omega)]
      · unfold gX9_putFour_L16
        dsimp only
        rw [litF, if_neg (nI_ge hk (by omega)), nI_add, zg_true (zok_nI (show d + k < 700 by omega) (by omega)), zlet_eq, nI_cl (by omega), bytec_nar, nI_1]) 4 0 zFu (0, M) (by omega) (by unfold zFu; omega) ⟨M, by rw [nI_0], rfl, fun _ _ _ => rfl, fun _ h => absurd h (by omega)⟩
  refine ⟨Mk, ?_, g1, g2, g3⟩
  rw [e]
  unfold gX9_putFour_L16
  dsimp only
  rw [litF, if_pos (nI_le (Nat.le_refl _) (by omega))]
def wd5 (a b c d e : Int32) (j : Nat) : Int32 := if j = 0 then a else if j = 1 then b else if j = 2 then c else if j = 3 then d else e
def sFeed (B : Nat × (Nat → Int32)) (a b c d e : Int32) : Nat × (Nat → Int32) := (B.1 + 20, fun i => if i < B.1 then B.2 i else bytem (wd5 a b c d e ((i - B.1) / 4)) ((i - B.1) % 4))
theorem mod4 {i : Nat} (h : i < 20) : nI i - nI i / 4 * 4 = nI (i % 4) := by
  have : ∀ m : Fin 20, nI m.val - nI m.val / 4 * 4 = nI (m.val % 4) := by decide
  exact this ⟨i, h⟩
theorem c_feed {M : zM} {d : Nat} {x1 x2 x3 x4 x5 : Int32} (hd : d + 20 ≤ 700) (h0 : M.1 0 1 = nI d) : ∃ M', gX9_feed x1 x2 x3 x4 x5 M = some (nI (d + 20), M') ∧ M'.2 = M.2 ∧ (∀ a i, ¬ (a = 1 ∧ d ≤ i ∧ i < d + 20) → ¬ (a = 0 ∧ i = 1) → M'.1 a i = M.1 a i) ∧ M'.1 0 1 = nI (d + 20) ∧ ∀ k, k < 20 → M'.1 1 (d + k) = bytec (wd5 x1 x2 x3 x4 x5 (k / 4)) (k % 4) := by
  obtain ⟨M1, a1, a2, a3, a4⟩ := c_put4 (M := M) (d := d) (x := x1) (by omega)
  obtain ⟨M2, b1, b2, b3, b4⟩ := c_put4 (M := M1) (d := d + 4) (x := x2) (by omega)
  obtain ⟨M3, c1, c2, c3, c4⟩ := c_put4 (M := M2) (d := d + 8) (x := x3) (by omega)
  obtain ⟨M4, d1, d2, d3, d4⟩ := c_put4 (M := M3) (d := d + 12) (x := x4) (by omega)
  obtain ⟨M5, e1, e2, e3, e4⟩ := c_put4 (M := M4) (d := d + 16) (x := x5) (by omega)
  have z1 : M1.1 0 1 = nI d := by rw [a3 0 1 (by omega)]; exact h0
  have z2 : M2.1 0 1 = nI d := by rw [b3 0 1 (by omega)]; exact z1
  have z3 : M3.1 0 1 = nI d := by rw [c3 0 1 (by omega)]; exact z2
  have z4 : M4.1 0 1 = nI d := by rw [d3 0 1 (by omega)]; exact z3
  have z5 : M5.1 0 1 = nI d := by rw [e3 0 1 (by omega)]; exact z4
  refine ⟨zI M5 0 1 (nI (d + 20)), ?_, by show M5.2 = _; rw [e2, d2, c2, b2, a2], fun a i w1 w2 => ?_, zI_at, fun k hk => ?_⟩
  · unfold gX9_feed
    rw [h0, lit20, nI_add, lit700, if_pos (nI_le hd (by omega)), zcV_some a1, z1, litF, nI_add, zcV_some b1, z2, nI_lit8, nI_add, zcV_some c1, z3, show (12 : Int32) = nI 12 by decide, nI_add, zcV_some d1, z4, show (16 : Int32) = nI 16 by decide, nI_add, zcV_some e1, z5, nI_add, zlet_eq, zI_at]
  · rw [zI_of w2, e3 a i (by omega), d3 a i (by omega), c3 a i (by omega), b3 a i (by omega), a3 a i (by omega)]
  · rw [zI_of (by omega)]
    unfold wd5
    rcases (show k / 4 = 0 ∨ k / 4 = 1 ∨ k / 4 = 2 ∨ k / 4 = 3 ∨ k / 4 = 4 by omega) with w | w | w | w | w
    · rw [w, if_pos rfl, e3 _ _ (by omega), d3 _ _ (by omega), c3 _ _ (by omega), b3 _ _ (by omega), show d + k = d + k % 4 by omega]; exact a4 _ (by omega)
    · rw [w, if_neg (by omega), if_pos rfl, e3 _ _ (by omega), d3 _ _ (by omega), c3 _ _ (by omega), show d + k = d + 4 + k % 4 by omega]; exact b4 _ (by omega)
    · rw [w, if_neg (by omega), if_neg (by omega), if_pos rfl, e3 _ _ (by omega), d3 _ _ (by omega), show d + k = d + 8 + k % 4 by omega]; exact c4 _ (by omega)
    · rw [w, if_neg (by omega), if_neg (by omega), if_neg (by omega), if_pos rfl, e3 _ _ (by omega), show d + k = d + 12 + k % 4 by omega]; exact d4 _ (by omega)
    · rw [w, if_neg (by omega), if_neg (by omega), if_neg (by omega), if_neg (by omega), show d + k = d + 16 + k % 4 by omega]; exact e4 _ (by omega)
theorem m_feed {M : zM} {d : Nat} {x1 x2 x3 x4 x5 : Int32} (hd : d + 20 ≤ 700) (h0 : M.1 98 2 = nI d) : ∃ M', zfix zFu (gX10_feed_L20 x1 x2 x3 x4 x5) (0, M) = some (nI (d + 20), M') ∧ M'.2 = M.2 ∧ (∀ a i, ¬ (a = 99 ∧ d ≤ i ∧ i < d + 20) → ¬ (a = 98 ∧ i = 2) → M'.1 a i = M.1 a i) ∧ M'.1 98 2 = nI (d + 20) ∧ ∀ k, k < 20 → M'.1 99 (d + k) = bytem (wd5 x1 x2 x3 x4 x5 (k / 4)) (k % 4) := by
  obtain ⟨s', N', ⟨Mk, rfl, g1, g2, g3⟩, e⟩ := zfix_inv (B := gX10_feed_L20 x1 x2 x3 x4 x5) (fun k s => ∃ Mk : zM, s = (nI k, Mk) ∧ Mk.2 = M.2 ∧ (∀ a i, ¬ (a = 99 ∧ d ≤ i ∧ i < d + k) → Mk.1 a i = M.1 a i) ∧ ∀ j, j < k → Mk.1 99 (d + j) = bytem (wd5 x1 x2 x3 x4 x5 (j / 4)) (j % 4)) 20 (fun k hk s hs => by
      obtain ⟨Mk, rfl, g1, g2, g3⟩ := hs
      have z : Mk.1 98 2 = nI d := by rw [g2 98 2 (by omega)]; exact h0
      have hJ : ∀ y rc, gX10_feed_J73 x1 x2 x3 x4 x5 (nI k) y rc Mk = rc (nI (k + 1), zI Mk 99 (d + k) (bytem y (k % 4))) := fun y rc => by
        unfold gX10_feed_J73
        rw [z, nI_add, zg_true (zok_nI (show d + k < 700 by omega) (by omega)), zlet_eq, nI_cl (by omega), mod4 hk, nI_1]
        rfl
      refine ⟨(nI (k + 1), zI Mk 99 (d + k) (bytem (wd5 x1 x2 x3 x4 x5 (k / 4)) (k % 4))), ⟨_, rfl, g1, fun a i w => ?_, fun j hj => ?_⟩, fun rc => ?_⟩
      · rw [zI_of (by omega), g2 a i (by omega)]
      · by_cases e : j = k
        · subst e; rw [zI_at]
        · rw [zI_of (by omega), g3 j (by omega)]
      · unfold gX10_feed_L20 wd5
        dsimp only
        simp only [hJ]
        rw [lit20, if_neg (nI_ge hk (by omega)), litF, nI_lit8, show (12 : Int32) = nI 12 by decide, show (16 : Int32) = nI 16 by decide]
        by_cases k4 : 4 ≤ k
        · rw [if_pos (nI_le k4 (by omega)), if_neg (show ¬ k / 4 = 0 by omega)]
          by_cases k8 : 8 ≤ k
          · rw [if_pos (nI_le k8 (by omega)), if_neg (show ¬ k / 4 = 1 by omega)]
            by_cases k12 : 12 ≤ k
            · rw [if_pos (nI_le k12 (by omega)), if_neg (show ¬ k / 4 = 2 by omega)]
              by_cases k16 : 16 ≤ k
              · rw [if_pos (nI_le k16 (by omega)), if_neg (show ¬ k / 4 = 3 by omega)]
              · rw [if_neg (nI_ge (by omega) (by omega)), if_pos (show k / 4 = 3 by omega)]
            · rw [if_neg (nI_ge (by omega) (by omega)), if_pos (show k / 4 = 2 by omega)]
          · rw [if_neg (nI_ge (by omega) (by omega)), if_pos (show k / 4 = 1 by omega)]
        · rw [if_neg (nI_ge (by omega) (by omega)), if_pos (show k / 4 = 0 by omega)]) 20 0 zFu (0, M) (by omega) (by unfold zFu; omega) ⟨M, by rw [nI_0], rfl, fun _ _ _ => rfl, fun _ h => absurd h (by omega)⟩
  refine ⟨zI Mk 98 2 (nI (d + 20)), ?_, g1, fun a i w1 w2 => by rw [zI_of w2, g2 a i w1], zI_at, fun k hk => by rw [zI_of (by omega), g3 k hk]⟩
  rw [e]
  unfold gX10_feed_L20
  dsimp only
  rw [lit20, if_pos (nI_le (Nat.le_refl _) (by omega)), g2 98 2 (by omega), h0, nI_add, zlet_eq, zI_at]
theorem k_feed {M : zM} (h : Rel M) (x1 x2 x3 x4 x5 : Int32) : ∃ r M1 M2, gX9_feed x1 x2 x3 x4 x5 M = some (r, M1) ∧ gX10_feed x1 x2 x3 x4 x5 M1 = some (r, M2) ∧ Rel M2 := by
  have h' := h
  obtain ⟨q, V, I, D, S, B, F, hA, hC, hM⟩ := h
  have hC' := hC
  obtain ⟨p, c1, c2, c3, c4, c5, c6, c7, c8⟩ := hC'
  have hB := hA.2.2.2.2.2.1
  by_cases hb : B.1 + 20 ≤ 700
  · obtain ⟨M1, a1, a2, a3, a4, a5⟩ := c_feed (x1 := x1) (x2 := x2) (x3 := x3) (x4 := x4) (x5 := x5) hb c7.1
    have hM1 : MR M1 q V I D S B F := hM.mono (fun a i d => a3 a i (by unfold dM at d; omega) (by unfold dM at d; omega))
    have hz := hM1.z (y := 0)
    obtain ⟨M2, b1, b2, b3, b4, b5⟩ := m_feed (M := zI M1 98 0 0) (x1 := x1) (x2 := x2) (x3 := x3) (x4 := x4) (x5 := x5) hb hz.2.2.2.2.2.2.1.1
    have hC1 : CR M1 q V I D S (sFeed B x1 x2 x3 x4 x5) F := hC.tp (fun a i z1 z2 z3 => a3 a i (by omega) z2) (fun a _ => by rw [a2]) ⟨a4, fun k hk => by
      show _ = (if k < B.1 then B.2 k else bytem (wd5 x1 x2 x3 x4 x5 ((k - B.1) / 4)) ((k - B.1) % 4)) ∧ _
      have hk' : k < B.1 + 20 := hk
      by_cases e : k < B.1
      · rw [if_pos e, a3 1 k (by omega) (by omega)]; exact c7.2 k e
      · have := a5 (k - B.1) (by omega)
        rw [show B.1 + (k - B.1) = k by omega] at this
        rw [if_neg e, this]
        exact ⟨byte_eq _ _ (by omega), _, rfl⟩⟩
    refine ⟨nI (B.1 + 20), M1, M2, a1, ?_, q, V, I, D, S, sFeed B x1 x2 x3 x4 x5, F, ⟨hA.1, hA.2.1, hA.2.2.1, hA.2.2.2.1, hA.2.2.2.2.1, hb, fun k hk => ?_⟩, ?_, ?_⟩
    · unfold gX10_feed
      rw [zlet_eq, hz.2.2.2.2.2.2.1.1, show (680 : Int32) = nI 680 by decide, if_pos (nI_le (by omega) (by omega))]
      exact b1
    · show ∃ b, b ≤ 255 ∧ (if k < B.1 then B.2 k else _) = nI b
      by_cases e : k < B.1
      · rw [if_pos e]; exact hA.2.2.2.2.2.2 k e
      · rw [if_neg e]; exact byte_le _ _
    · exact hC1.hi (fun a i z => by rw [b3 a i (by omega) (by omega), zI_of (by omega)]) (by rw [b2]; rfl)
    · refine hz.gen (fun a i _ z => b3 a i (by omega) (by omega)) (hz.2.2.2.2.2.1.mono (b3 _ _ (by omega) (by omega)) (b3 _ _ (by omega) (by omega)) (fun a i z1 z2 => b3 a i (by omega) (by omega))) ⟨b4, fun k hk => ?_⟩ ⟨by rw [b3 _ _ (by omega) (by omega)]; exact hz.2.2.2.2.2.2.2.1, by rw [b3 _ _ (by omega) (by omega)]; exact hz.2.2.2.2.2.2.2.2⟩
      have hk' : k < B.1 + 20 := hk
      show _ = (if k < B.1 then B.2 k else bytem (wd5 x1 x2 x3 x4 x5 ((k - B.1) / 4)) ((k - B.1) % 4))
      by_cases e : k < B.1
      · rw [if_pos e, b3 99 k (by omega) (by omega)]; exact hz.2.2.2.2.2.2.1.2 k e
      · have := b5 (k - B.1) (by omega)
        rw [show B.1 + (k - B.1) = k by omega] at this
        rw [if_neg e, this]
  · refine ⟨-1, M, zI M 98 0 0, ?_, ?_, h'.z⟩
    · unfold gX9_feed
      rw [c7.1, lit20, nI_add, lit700, if_neg (nI_ge (by omega) (by omega))]
    · unfold gX10_feed
      rw [zlet_eq, hM.z.2.2.2.2.2.2.1.1, show (680 : Int32) = nI 680 by decide, if_neg (nI_ge (by omega) (by omega))]
