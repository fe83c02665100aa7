/-! ===== bits ===== -/
def bitI (t : Int32) (w : Nat) : Bool := t.toBitVec.getLsbD w
theorem m31 {w : Nat} (h : w < 32) : nI w &&& 31 = nI w := by
  have : ∀ m : Fin 32, nI m.val &&& 31 = nI m.val := by decide +kernel
  exact this ⟨w, h⟩
theorem g1b (i : Nat) (hi : i < 32) : (1#32).getLsbD i = decide (i = 0) := by
  have : ∀ i : Fin 32, (1#32).getLsbD i.val = decide (i.val = 0) := by decide +kernel
  exact this ⟨i, hi⟩
theorem bit_rd {t : Int32} {w : Nat} (h : w < 32) : ((t >>> (nI w &&& 31)) &&& 1 = 1) ↔ bitI t w = true := by
  rw [m31 h]
  have h2 : (t >>> nI w).toBitVec = t.toBitVec.sshiftRight w := by
    rw [Int32.toBitVec_shiftRight]
    have : ((nI w).toBitVec.smod 32).toNat = w := by
      have : ∀ m : Fin 32, ((nI m.val).toBitVec.smod 32).toNat = m.val := by decide +kernel
      exact this ⟨w, h⟩
    show t.toBitVec.sshiftRight ((nI w).toBitVec.smod 32).toNat = _
    rw [this]
  have h0 : (t.toBitVec.sshiftRight w).getLsbD 0 = t.toBitVec.getLsbD w := by
    rw [BitVec.getLsbD_sshiftRight]
    simp [h]
  constructor
  · intro e
    have e1 := congrArg Int32.toBitVec e
    rw [Int32.toBitVec_and, h2] at e1
    have e2 : (t.toBitVec.sshiftRight w &&& (1 : Int32).toBitVec).getLsbD 0 = (1 : Int32).toBitVec.getLsbD 0 := by rw [e1]
    rw [BitVec.getLsbD_and, h0] at e2
    have e3 : (1 : Int32).toBitVec.getLsbD 0 = true := by decide
    rw [e3, Bool.and_true] at e2
    exact e2
  · intro e
    apply Int32.toBitVec_inj.mp
    rw [Int32.toBitVec_and, h2]
    show _ &&& 1#32 = 1#32
    apply BitVec.eq_of_getLsbD_eq
    intro i hi
    rw [BitVec.getLsbD_and, g1b i hi]
    by_cases z : i = 0
    · subst z
      rw [h0]
      show (t.toBitVec.getLsbD w && true) = true
      rw [Bool.and_true]; exact e
    · rw [decide_eq_false z, Bool.and_false]
theorem bit_or {t : Int32} {w v : Nat} (hw : w < 31) (hv : v < 32) : bitI (t ||| ((1 : Int32) <<< (nI w &&& 31))) v = (bitI t v || decide (v = w)) := by
  rw [m31 (by omega), show (1 : Int32) = nI 1 by decide, nI_shl 1 w (by omega)]
  unfold bitI
  rw [Int32.toBitVec_or, BitVec.getLsbD_or]
  congr 1
  have : (List.range 32).all (fun v => (List.range 31).all (fun w => (BitVec.ofNat 32 (1 * 2 ^ w)).getLsbD v == decide (v = w))) = true := by decide +kernel
  have a := List.all_eq_true.mp this v (List.mem_range.mpr hv)
  have c := List.all_eq_true.mp a w (List.mem_range.mpr hw)
  exact eq_of_beq c
/-! ===== what stands read of a TEXT ===== -/
/-- where the reference reads it to -/
def pu (c k : Nat) : Nat × Nat := if c ≤ 4 then (100 + c, 6 + k) else if c ≤ 8 then (100 + c, 8 + k) else if c ≤ 11 then (100 + c, 10 + k) else (100, 12 + k)
abbrev LWr : Type := Nat → Option (Nat × List (Int32 × Int32))
def lwA (LW : LWr) (j : Nat) : Nat := match LW j with
  | some ae => ae.1
  | none => 0
def lwB (LW : LWr) (j : Nat) : Nat := match LW j with
  | some ae => ae.1 + ae.2.length
  | none => 0
def cLw (M : zM) (p : Nat) (LW : LWr) : Prop := ∀ j, j < 3 → (LW j = none → M.1 (p + 15) j = -1) ∧ (∀ ae, LW j = some ae → M.1 (p + 15) j = nI ae.1 ∧ M.1 (p + 16) j = nI (ae.1 + ae.2.length))
def cPs (M : zM) (p n T L : Nat) (P : AV) (sd : Nat → Bool) (LW : LWr) (out : List (Int32 × Int32)) : Prop :=
  (M.1 p 0 = nI n ∧ M.1 p 5 = nI T ∧ M.1 p 10 = nI L) ∧ (∀ c k, 1 ≤ c → pdim n T L c k = true → M.1 (p + c) k = P c k) ∧ (∀ k, k < 5 → M.1 (p + 13) k = b2i (sd k)) ∧ cLw M p LW ∧ ouM M p out ∧ M.1 (p + 14) 0 = nI out.length
def mLw (M : zM) (LW : LWr) : Prop := ∀ j, j < 3 → M.1 112 (3 + j) = nI (lwA LW j) ∧ M.1 113 (3 + j) = nI (lwB LW j)
def mTd (M : zM) (sd : Nat → Bool) (LW : LWr) : Prop := (∀ k, k < 5 → bitI (M.1 98 19) (3 + k) = sd k) ∧ ∀ j, j < 3 → bitI (M.1 98 19) (16 + j) = (LW j).isSome
def mPs (M : zM) (n T L : Nat) (P : AV) (sd : Nat → Bool) (LW : LWr) (out : List (Int32 × Int32)) : Prop :=
  (M.1 100 9 = nI n ∧ M.1 100 10 = nI T ∧ M.1 100 11 = nI L) ∧ (∀ c k, 1 ≤ c → pdim n T L c k = true → M.1 (pu c k).1 (pu c k).2 = P c k) ∧ mTd M sd LW ∧ mLw M LW ∧ kO M out ∧ M.1 98 31 = nI out.length ∧ M.1 98 30 = 0
def sgI (LW : LWr) (out : List (Int32 × Int32)) : Prop := ∀ j, j < 3 → ∀ ae, LW j = some ae → wfc ae.2 ∧ ae.1 + ae.2.length ≤ out.length ∧ ∀ k, k < ae.2.length → out.getD (ae.1 + k) (0, 0) = ae.2.getD k (0, 0)
def aI (n T L : Nat) (P : AV) (LW : LWr) (out : List (Int32 × Int32)) : Prop :=
  (n ≤ 6 ∧ T ≤ 8 ∧ L ≤ 10 ∧ out.length ≤ 64) ∧ (∀ k, k < n → ∃ r : Nat, r ≤ 99 ∧ P 3 k = nI r) ∧ (∀ k, k < T → (∃ r : Nat, r ≤ 99 ∧ P 6 k = nI r) ∧ ∃ d : Nat, 1 ≤ d ∧ d ≤ 6 ∧ P 7 k = nI d) ∧ (∀ k, k < L → ∃ m, m < n ∧ P 9 k = nI m) ∧ (∃ r : Nat, r ≤ 100 ∧ P 12 3 = nI r) ∧ (∃ r : Nat, r ≤ 100 ∧ P 12 2 = nI r) ∧ sgI LW out
/-! what changes -/
def FrC (p : Nat) (M M' : zM) : Prop := M'.2 = M.2 ∧ ∀ a i, ¬ ((47 ≤ a ∧ a ≤ 49) ∨ (p ≤ a ∧ a ≤ p + 20)) → M'.1 a i = M.1 a i
def FRc (a i : Nat) : Prop := (a = 98 ∧ (i = 19 ∨ i = 20 ∨ (22 ≤ i ∧ i ≤ 27) ∨ i = 30 ∨ i = 31)) ∨ (a = 100 ∧ 9 ≤ i) ∨ (101 ≤ a ∧ a ≤ 104 ∧ 6 ≤ i) ∨ (105 ≤ a ∧ a ≤ 108 ∧ 8 ≤ i) ∨ (109 ≤ a ∧ a ≤ 111 ∧ 10 ≤ i) ∨ (112 ≤ a ∧ a ≤ 113 ∧ 3 ≤ i) ∨ (114 ≤ a ∧ a ≤ 115 ∧ 64 ≤ i)
def FrR (M M' : zM) : Prop := M'.2 = M.2 ∧ ∀ a i, ¬ FRc a i → M'.1 a i = M.1 a i
theorem FrR.rf {M : zM} : FrR M M := ⟨rfl, fun _ _ _ => rfl⟩
theorem FrR.tr {M M1 M2 : zM} (h : FrR M M1) (h2 : FrR M1 M2) : FrR M M2 := ⟨h2.1.trans h.1, fun a i q => (h2.2 a i q).trans (h.2 a i q)⟩
theorem FrR.put {M : zM} {a i : Nat} {x : Int32} (h : FRc a i) : FrR M (zI M a i x) := ⟨rfl, fun c j q => zI_of (fun w => q (by rw [w.1, w.2]; exact h))⟩
theorem FT.R {M M' : zM} (h : FT M M') : FrR M M' := ⟨h.1, fun a i q => h.2 a i (fun w => q (by unfold FRc; omega))⟩
theorem FE.R {M M' : zM} (h : FE M M') : FrR M M' := ⟨h.1, fun a i q => h.2 a i (fun w => q (by unfold FEc at w; unfold FRc; omega))⟩
theorem FrC.rf {p : Nat} {M : zM} : FrC p M M := ⟨rfl, fun _ _ _ => rfl⟩
theorem FrC.tr {p : Nat} {M M1 M2 : zM} (h : FrC p M M1) (h2 : FrC p M1 M2) : FrC p M M2 := ⟨h2.1.trans h.1, fun a i q => (h2.2 a i q).trans (h.2 a i q)⟩
/-! class and reference at a TOKEN -/
def cX (M : zM) (p N z : Nat) (b : Nat → Nat) (j : Nat) : Prop := zisPl p = true ∧ M.2.2 47 3 = some p ∧ cTk M N z b ∧ M.1 47 4 = nI j
def rX (M : zM) (N : Nat) (b : Nat → Nat) (j : Nat) : Prop := M.1 98 26 = 0 ∧ mAt M N b j
def FQ (M M' : zM) : Prop := M'.2 = M.2 ∧ ∀ a i, ¬ (a = 47 ∧ (i ≤ 1 ∨ (4 ≤ i ∧ i ≤ 7))) → M'.1 a i = M.1 a i
def FN (M M' : zM) : Prop := M'.2 = M.2 ∧ ∀ a i, ¬ (a = 98 ∧ 22 ≤ i ∧ i ≤ 27) → M'.1 a i = M.1 a i
theorem FN.R {M M' : zM} (h : FN M M') : FrR M M' := ⟨h.1, fun a i q => h.2 a i (fun w => q (by unfold FRc; omega))⟩
theorem FQ.C {p : Nat} {M M' : zM} (h : FQ M M') : FrC p M M' := ⟨h.1, fun a i q => h.2 a i (fun w => q (by omega))⟩
theorem FA.Q {M M' : zM} (h : FA M M') : FQ M M' := ⟨h.1, fun a i q => h.2 a i (fun w => q (by omega))⟩
theorem FT.N {M M' : zM} (h : FT M M') : FN M M' := ⟨h.1, fun a i q => h.2 a i (fun w => q (by omega))⟩
theorem cX.q {M M' : zM} {p N z j j' : Nat} {b : Nat → Nat} (h : cX M p N z b j) (hf : FQ M M') (h4 : M'.1 47 4 = nI j') : cX M' p N z b j' := ⟨h.1, by rw [hf.1]; exact h.2.1, h.2.2.1.mono (fun a i q1 q2 => hf.2 a i (by omega)), h4⟩
theorem c_reads {M : zM} {p N z j k0 : Nat} {b : Nat → Nat} (ht : tB N b) (hz : z ≤ 700) (hX : cX M p N z b j) (hj : j ≤ z) (hk : k0 < 39) : (tk N b j = k0 → ∃ M', gX5_reads (nI k0) M = some (1, M') ∧ cAtt M' N b j ∧ FA M M') ∧ (tk N b j ≠ k0 → ∃ M', gX5_reads (nI k0) M = some (0, M') ∧ cF M' N b 1 j ∧ FQ M M') := by
  have h38 := tk_38 ht j
  obtain ⟨M1, a1, a2, a3⟩ := c_adv hz hX.2.2.1 hX.2.2.2 hj
  unfold gX5_reads
  rw [zcV_some a1, a2.2.1]
  refine ⟨fun e => ?_, fun e => ?_⟩
  · rw [e, if_pos rfl]
    exact ⟨M1, rfl, a2, a3⟩
  · rw [if_neg (cl_ne h38 (by omega) e)]
    obtain ⟨M', g1, g2, g3⟩ := c_fails 1 a2
    rw [zcIM_some (show gX5_fails 1 M1 = _ from g1), if_pos rfl]
    exact ⟨M', rfl, g2, g3.1.trans a3.1, fun a i q => by rw [g3.2 a i (by omega), a3.2 a i (by omega)]⟩
theorem m_wrongX {M : zM} {N j : Nat} {b : Nat → Nat} (f : Nat) (h : rX M N b j) : ∃ M', gX10_wrong (nI f) M = some M' ∧ rF M' N b f j ∧ FN M M' := by
  obtain ⟨M', g1, g2, g3⟩ := m_wrong f h.1 h.2
  exact ⟨M', g1, g2, g3.1, fun a i q => g3.2 a i (by omega)⟩
theorem m_tokX {M : zM} {N j : Nat} {b : Nat → Nat} (ht : tB N b) (h : rX M N b j) : ∃ M', gX10_token M = some M' ∧ rX M' N b (j + 1) ∧ FT M M' := by
  obtain ⟨M', g1, g2, g3⟩ := m_next ht h.2
  exact ⟨M', g1, ⟨by rw [g3.2 _ _ (by omega)]; exact h.1, g2⟩, g3⟩
def fOk (f : Nat) : Prop := 1 ≤ f ∧ f ≤ 4
theorem rF_n0 {M : zM} {N f j : Nat} {b : Nat → Nat} (h : rF M N b f j) (hf : fOk f) : ¬ M.1 98 26 = 0 := by
  unfold fOk at hf
  rw [h.1, nI_z, nI_eqs (by omega) (by omega)]
  omega
def TX (N z : Nat) (b : Nat → Nat) : Prop := tB N b ∧ z ≤ 700 ∧ tk N b z = 0
theorem TX.lt {N z j : Nat} {b : Nat → Nat} (h : TX N z b) (hj : j ≤ z) (h0 : tk N b j ≠ 0) : j < z := by
  rcases Nat.lt_or_ge j z with w | w
  · exact w
  · rw [show j = z by omega] at h0; exact absurd h.2.2 h0
/-- a number: both find it, or both the same FAULT -/
theorem jNum {Mc Mm : zM} {p N z j lo hi : Nat} {b : Nat → Nat} (hTX : TX N z b) (hX : cX Mc p N z b j) (hR : rX Mm N b j) (hj : j ≤ z) (hhi : hi ≤ 99999) (hlo : lo ≤ hi) :
    (∃ f, fOk f ∧ (∃ Mc', gX5_readsNumber (nI lo) (nI hi) Mc = some (0, Mc') ∧ cF Mc' N b f j ∧ FQ Mc Mc') ∧ ∃ Mm', gX10_numeral (nI lo) (nI hi) Mm = some (nI lo, Mm') ∧ rF Mm' N b f j ∧ FN Mm Mm') ∨
    (∃ x, lo ≤ x ∧ x ≤ hi ∧ j < z ∧ (∃ Mc', gX5_readsNumber (nI lo) (nI hi) Mc = some (1, Mc') ∧ cX Mc' p N z b (j + 1) ∧ Mc'.1 47 7 = nI x ∧ FA Mc Mc') ∧ ∃ Mm', gX10_numeral (nI lo) (nI hi) Mm = some (nI x, Mm') ∧ rX Mm' N b (j + 1) ∧ FN Mm Mm') := by
  have ht := hTX.1
  have hz := hTX.2.1
  have h38 := tk_38 ht j
  obtain ⟨r1, r2⟩ := c_reads (k0 := 3) ht hz hX hj (by omega)
  obtain ⟨t1, t2, t3, t4⟩ := hR.2.2.2.2
  have bad : ∀ f, fOk f → (∃ Mm', gX10_wrong (nI f) Mm = some Mm' ∧ rF Mm' N b f j ∧ FN Mm Mm' ∧ gX10_numeral_J46 (nI lo) Mm' = some (nI lo, Mm')) := fun f hf => by
    obtain ⟨M', g1, g2, g3⟩ := m_wrongX f hR
    refine ⟨M', g1, g2, g3, ?_⟩
    unfold gX10_numeral_J46
    rw [if_neg (rF_n0 g2 hf)]
  by_cases h3 : tk N b j = 3
  · obtain ⟨x, y, ex, ey, hn⟩ := t3 h3
    have hx : x < 2 ^ 31 := by rcases hn with w | w <;> omega
    have hy : y < 2 ^ 31 := by rcases hn with w | w <;> omega
    have hz' : j < z := hTX.lt hj (by omega)
    obtain ⟨M2, a1, a2, a3⟩ := r1 h3
    have iffx : (lo ≤ x ∧ x ≤ hi) ↔ (lo ≤ y ∧ y ≤ hi) := by rcases hn with w | w <;> omega
    by_cases hin : lo ≤ x ∧ x ≤ hi
    · have hxy : x = y := by rcases hn with w | w <;> omega
      refine Or.inr ⟨x, hin.1, hin.2, hz', ⟨M2, ?_, hX.q a3.Q a2.1, by rw [a2.2.2.2]; exact ex, a3⟩, ?_⟩
      · unfold gX5_readsNumber
        rw [zcIM_some (show gX5_reads 3 Mc = _ from a1), if_neg (by decide), a2.2.2.2, ex, if_neg (fun w => by rw [nI_lt_iff (by omega) (by omega)] at w; omega), if_pos (nI_le hin.2 (by omega))]
      · obtain ⟨M', g1, g2, g3⟩ := m_tokX ht hR
        refine ⟨M', ?_, g2, g3.N⟩
        unfold gX10_numeral
        rw [if_pos hR.1, t1, if_pos ((rSo_at h38).2.2.1.mpr h3), ey, if_neg (fun w => by rw [nI_lt_iff (by omega) (by omega)] at w; omega), if_pos (nI_le (by omega) (by omega))]
        unfold gX10_numeral_J46
        rw [if_pos hR.1, zcV_some g1, ey, hxy]
    · left
      obtain ⟨Mm', g1, g2, g3, g4⟩ := bad 2 ⟨by omega, by omega⟩
      refine ⟨2, ⟨by omega, by omega⟩, ?_, Mm', ?_, g2, g3⟩
      · obtain ⟨M', q1, q2, q3⟩ := c_fails 2 a2
        have e26 : gX5_readsNumber_J26 M2 = some (0, M') := by
          unfold gX5_readsNumber_J26
          rw [zcIM_some (show gX5_fails 2 M2 = _ from q1), if_pos rfl]
        refine ⟨M', ?_, q2, q3.1.trans a3.1, fun a i q => by rw [q3.2 a i (by omega), a3.2 a i (by omega)]⟩
        unfold gX5_readsNumber
        rw [zcIM_some (show gX5_reads 3 Mc = _ from a1), if_neg (by decide), a2.2.2.2, ex, e26]
        by_cases w : x < lo
        · rw [if_pos ((nI_lt_iff hx (by omega)).mpr w)]
        · rw [if_neg (fun q => w ((nI_lt_iff hx (by omega)).mp q)), if_neg (nI_ge (by omega) (by omega))]
      · have e41 : gX10_numeral_J41 (nI lo) Mm = some (nI lo, Mm') := by
          unfold gX10_numeral_J41
          rw [zcV_some (show gX10_wrong 2 Mm = _ from g1), g4]
        unfold gX10_numeral
        rw [if_pos hR.1, t1, if_pos ((rSo_at h38).2.2.1.mpr h3), ey, e41]
        by_cases w : y < lo
        · rw [if_pos ((nI_lt_iff hy (by omega)).mpr w)]
        · rw [if_neg (fun q => w ((nI_lt_iff hy (by omega)).mp q)), if_neg (nI_ge (by omega) (by omega))]
  · left
    obtain ⟨M2, a1, a2, a3⟩ := r2 h3
    obtain ⟨Mm', g1, g2, g3, g4⟩ := bad 1 ⟨by omega, by omega⟩
    refine ⟨1, ⟨by omega, by omega⟩, ⟨M2, ?_, a2, a3⟩, Mm', ?_, g2, g3⟩
    · unfold gX5_readsNumber
      rw [zcIM_some (show gX5_reads 3 Mc = _ from a1), if_pos rfl]
    · unfold gX10_numeral
      rw [if_pos hR.1, t1, if_neg (fun w => h3 ((rSo_at h38).2.2.1.mp w)), zcV_some (show gX10_wrong 1 Mm = _ from g1), g4]
