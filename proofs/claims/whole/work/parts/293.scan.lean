theorem c_scan {M : zM} {N z : Nat} {b : Nat → Nat} (ht : tB N b) (hb : ∀ i, i < N → M.1 1 i &&& 255 = nI (b i) ∧ (M.1 1 i = 32 ↔ b i = 32) ∧ (M.1 1 i = 10 ↔ b i = 10)) (hz : z ≤ N) (hz0 : tk N b z = 0) (hz1 : ∀ j, j < z → tk N b j ≠ 0) :
    ∃ M', gX7_scan (nI N) M = some M' ∧ (∀ a i, ¬ (50 ≤ a ∧ a ≤ 53) → M'.1 a i = M.1 a i) ∧ M'.2.1 = M.2.1 ∧ (∀ a, a ≠ 50 → M'.2.2 a = M.2.2 a) ∧ M'.1 50 3 = nI (z + 1) ∧ ∀ j, j ≤ z → M'.1 51 j = nI (tk N b j) ∧ M'.1 52 j = nI (pl N b j) ∧ M'.1 53 j = tv N b j := by
  have h7 := ht.1
  unfold gX7_scan
  rw [zlet_eq, zlet_eq, zlet_eq, zlet_eq, lit700, if_neg (show ¬ nI 700 < nI N by rw [nI_lt_iff (by omega) (by omega)]; omega)]
  have hM0 : ∃ M0, M0 = zI (zI (zI (zF M 50 0 1) 50 1 (nI N)) 50 2 0) 50 3 0 := ⟨_, rfl⟩
  obtain ⟨M0, e0⟩ := hM0
  rw [← e0]
  have fr0 : ∀ a i, ¬ (50 ≤ a ∧ a ≤ 53) → M0.1 a i = M.1 a i := fun a i w => by rw [e0, zI_of (by omega), zI_of (by omega), zI_of (by omega)]; rfl
  have c0 : cB M0 N b := ⟨by rw [e0, zI_of (by omega), zI_of (by omega), zI_at], by rw [e0]; show (zF M 50 0 1).2.2 50 0 = some 1; exact zF_at, fun i hi => by rw [fr0 1 i (by omega)]; exact hb i hi⟩
  obtain ⟨s', N', ⟨Mk, rfl, g1, g2, g3, g4, g5, g6⟩, e⟩ := zfix_inv (B := gX7_scan_L30) (fun k s => ∃ Mk : zM, s = ((if k = z + 1 then 1 else 0), nI k, Mk) ∧ Mk.2 = M0.2 ∧ (∀ a i, ¬ (50 ≤ a ∧ a ≤ 53) → Mk.1 a i = M.1 a i) ∧ cB Mk N b ∧ Mk.1 50 2 = nI (ps N b k) ∧ Mk.1 50 3 = nI k ∧ ∀ j, j < k → Mk.1 51 j = nI (tk N b j) ∧ Mk.1 52 j = nI (pl N b j) ∧ Mk.1 53 j = tv N b j) (z + 1) (fun k hk s hs => by
      obtain ⟨Mk, rfl, g1, g2, g3, g4, g5, g6⟩ := hs
      have hps := ps_le ht k
      have k701 : k < 701 := by omega
      have q701 : ∀ e : Option zM, zg (zok (nI k) 701) e = e := fun e => zg_true (zok_nI k701 (by omega))
      have ca : cB (zI Mk 50 2 (nI (pl N b k))) N b := g3.put (by omega) (by omega)
      have cb : cB (zI (zI Mk 50 2 (nI (pl N b k))) 52 k (nI (pl N b k))) N b := ca.put (by omega) (by omega)
      have cc : cB (zI (zI (zI Mk 50 2 (nI (pl N b k))) 52 k (nI (pl N b k))) 53 k 0) N b := cb.put (by omega) (by omega)
      have htok := c_token (k := k) cc ht (by rw [zI_of (by omega), zI_of (by omega), zI_at]) hps.2 k701 zI_at
      have hM' : ∃ M', M' = zI (zI (zI (zI (zI (zI (zI Mk 50 2 (nI (pl N b k))) 52 k (nI (pl N b k))) 53 k 0) 50 2 (nI (tkE N b (pl N b k)))) 53 k (tkV N b (pl N b k))) 51 k (nI (tkK N b (pl N b k)))) 50 3 (nI (k + 1)) := ⟨_, rfl⟩
      obtain ⟨M', eM'⟩ := hM'
      refine ⟨((if k + 1 = z + 1 then 1 else 0), nI (k + 1), M'), ⟨M', rfl, ?_, fun a i w => ?_, ?_, ?_, ?_, fun j hj => ?_⟩, fun rc => ?_⟩
      · rw [eM']; exact g1
      · rw [eM', zI_of (by omega), zI_of (by omega), zI_of (by omega), zI_of (by omega), zI_of (by omega), zI_of (by omega), zI_of (by omega)]; exact g2 a i w
      · rw [eM']; exact (((cc.put (by omega) (by omega)).put (by omega) (by omega)).put (by omega) (by omega)).put (by omega) (by omega)
      · rw [eM', zI_of (by omega), zI_of (by omega), zI_of (by omega), zI_at]; rfl
      · rw [eM', zI_at]
      · by_cases w : j = k
        · subst w
          refine ⟨?_, ?_, ?_⟩
          · rw [eM', zI_of (by omega), zI_at]; rfl
          · rw [eM', zI_of (by omega), zI_of (by omega), zI_of (by omega), zI_of (by omega), zI_of (by omega), zI_at]
          · rw [eM', zI_of (by omega), zI_of (by omega), zI_at]; rfl
        · have f : ∀ a, 51 ≤ a → a ≤ 53 → M'.1 a j = Mk.1 a j := fun a a1 a2 => by rw [eM', zI_of (by omega), zI_of (by omega), zI_of (by omega), zI_of (by omega), zI_of (by omega), zI_of (by omega), zI_of (by omega)]
          rw [f 51 (by omega) (by omega), f 52 (by omega) (by omega), f 53 (by omega) (by omega)]
          exact g6 j (by omega)
      · unfold gX7_scan_L30 gX7_scan_J93
        dsimp only
        rw [lit700, if_neg (show ¬ nI 700 < nI k by rw [nI_lt_iff (by omega) (by omega)]; omega), if_neg (show ¬ k = z + 1 by omega), if_pos rfl, zcV_some (c_skip g3 ht g4 hps.1)]
        simp only [q701]
        rw [show (zI Mk 50 2 (nI (enP (isBk b) N (ps N b k)))).1 50 2 = nI (pl N b k) from zI_at, show enP (isBk b) N (ps N b k) = pl N b k from rfl, zlet_eq, nI_cl (by omega), zlet_eq, zcIM_some htok, zlet_eq, zI_at, zlet_eq, zlet_eq, nI_1, ← eM']
        by_cases w : k + 1 = z + 1
        · have : tkK N b (pl N b k) = 0 := by rw [show k = z by omega]; exact hz0
          rw [if_pos w, if_pos (by rw [this]; exact nI_0)]
        · have : tkK N b (pl N b k) ≠ 0 := hz1 k (by omega)
          have le := (tk_facts ht hps.2).1
          rw [if_neg w, if_neg (by rw [← nI_0, nI_eqs (by omega) (by omega)]; exact this)]) (z + 1) 0 zFu (0, 0, M0) (by omega) (by unfold zFu; omega) ⟨M0, by rw [if_neg (by omega), nI_0], rfl, fr0, c0, by rw [e0, zI_of (by omega), zI_at]; exact nI_0.symm, by rw [e0, zI_at]; exact nI_0.symm, fun _ h => absurd h (by omega)⟩
  refine ⟨Mk, ?_, g2, ?_, fun a ha => ?_, g5, fun j hj => g6 j (by omega)⟩
  · rw [e]
    unfold gX7_scan_L30
    dsimp only
    rw [if_pos rfl, if_neg (show ¬ (1 : Int32) = 0 by decide)]
    exact ite_r rfl
  · rw [g1, e0]; rfl
  · rw [g1, e0]
    funext i
    exact zF_of (by omega)
/-! the reference's TOKENS -/
def mB (M : zM) (N : Nat) (b : Nat → Nat) : Prop := M.1 98 21 = nI N ∧ ∀ i, i < N → M.1 99 i = nI (b i)
theorem mB.mono {M M' : zM} {N : Nat} {b : Nat → Nat} (h : mB M N b) (h1 : M'.1 98 21 = M.1 98 21) (h2 : ∀ i, M'.1 99 i = M.1 99 i) : mB M' N b := ⟨by rw [h1]; exact h.1, fun i hi => by rw [h2]; exact h.2 i hi⟩
theorem mB.put {M : zM} {N : Nat} {b : Nat → Nat} {i : Nat} {x : Int32} (h : mB M N b) (hi : i ≠ 21) : mB (zI M 98 i x) N b := h.mono (zI_of (by omega)) (fun j => zI_of (by omega))
theorem m_here {M : zM} {N a : Nat} {b : Nat → Nat} (h : mB M N b) (ht : tB N b) (ha : M.1 98 22 = nI a) (hN : a ≤ N) : gX10_here M = some (pkI N b a) := by
  have := ht.1
  unfold gX10_here pkI
  rw [ha, h.1]
  by_cases e : a < N
  · rw [if_pos e, if_neg (nI_ge e (by omega)), zg_true (zok_nI (show a < 700 by omega) (by omega)), nI_cl (by omega), h.2 a e]
  · rw [if_neg e, if_pos (nI_le (by omega) (by omega))]
theorem isS_m {x : Nat} {M : zM} (h : x ≤ 255) : gX10_isSmall (nI x) M = some (b2i (decide (97 ≤ x ∧ x ≤ 122))) := isL_c (M := M) h
theorem isD_m {x : Nat} {M : zM} (h : x ≤ 255) : gX10_isDigit (nI x) M = some (b2i (decide (48 ≤ x ∧ x ≤ 57))) := isD_c (M := M) h
/-- the place where the word n is left -/
def stpF (b : Nat → Nat) (p l n : Nat) (i : Nat) : Bool := decide (l ≤ i) || !decide (b (p + i) = 96 + wE n i)
theorem m_word {M : zM} {N p e : Nat} {b : Nat → Nat} (h : mB M N b) (ht : tB N b) (h22 : M.1 98 22 = nI e) (h23 : M.1 98 23 = nI p) (hpe : p ≤ e) (he : e ≤ N) (hL : ∀ i, p ≤ i → i < e → 97 ≤ b i ∧ b i ≤ 122) : gX10_word M = some (oN (ffst (isWd (e - p) (ltD b p)) 22)) := by
  have h7 := ht.1
  have skip : ∀ n, n < 22 → ∀ rc4, zfix zFu (gX10_word_L97 (nI n) rc4 M) (nI (wF n)) = rc4 (nI (n + 1), nI (wF (n + 1))) := fun n hn rc4 => by
    obtain ⟨w1, w2, w3, w4, w5, w6⟩ := wd_at hn
    refine zfix_run (fun i => nI (wF n + i)) (wL n).length rfl (by unfold zFu; omega) ?_ ?_
    · intro i hi rc
      obtain ⟨v1, v2, v3⟩ := w6 i hi
      unfold gX10_word_L97
      rw [zg_true (zok_nI (show wF n + i < 108 by omega) (by omega)), nI_cl (by omega), v1, if_neg (by rw [show (32 : Int32) = nI 32 by decide, nI_eqs (by omega) (by omega)]; omega), nI_1]
      rfl
    · intro rc
      unfold gX10_word_L97
      rw [zg_true (zok_nI (show wF n + (wL n).length < 108 by omega) (by omega)), nI_cl (by omega), w5, if_pos rfl, nI_1, nI_1, w1]
  have try_ : ∀ n, n < 22 → ∀ rc4, zfix zFu (gX10_word_L15 (nI n) (nI (wF n)) rc4 M) 0 = if isWd (e - p) (ltD b p) n = true then some (nI n) else rc4 (nI (n + 1), nI (wF (n + 1))) := fun n hn rc4 => by
    obtain ⟨w1, w2, w3, w4, w5, w6⟩ := wd_at hn
    have J69 : ∀ i, i ≤ (wL n).length → gX10_word_J69 (nI n) (nI (wF n)) (nI i) rc4 M = if i = (wL n).length ∧ p + i = e then some (nI n) else rc4 (nI (n + 1), nI (wF (n + 1))) := fun i hi => by
      unfold gX10_word_J69
      rw [nI_add, zg_true (zok_nI (show wF n + i < 108 by omega) (by omega)), nI_cl (by omega), h22, h23, nI_add, skip n hn rc4]
      by_cases hl : i = (wL n).length
      · rw [hl, w5, if_pos rfl]
        by_cases hh : p + (wL n).length = e
        · rw [if_pos (show nI (p + (wL n).length) = nI e by rw [hh]), if_pos ⟨rfl, hh⟩]
        · rw [if_neg (by rw [nI_eqs (by omega) (by omega)]; exact hh), if_neg (fun w => hh w.2)]
      · obtain ⟨v1, v2, v3⟩ := w6 i (by omega)
        rw [v1, if_neg (by rw [show (32 : Int32) = nI 32 by decide, nI_eqs (by omega) (by omega)]; omega), if_neg (fun w => hl w.1)]
    rw [zfix_find (B := gX10_word_L15 (nI n) (nI (wF n)) rc4 M) (fun i => nI i) (stpF b p (e - p) n) (fun i => gX10_word_J69 (nI n) (nI (wF n)) (nI i) rc4 M) (gX10_word_J69 (nI n) (nI (wF n)) (nI (wL n).length) rc4 M) (wL n).length nI_0.symm (by unfold zFu; omega) ?_ ?_ ?_]
    · cases hf : ffst (stpF b p (e - p) n) (wL n).length with
      | some i =>
        obtain ⟨f1, f2, f3⟩ := ffst_some hf
        dsimp only
        rw [J69 i (by omega), if_neg (show ¬ (i = (wL n).length ∧ p + i = e) by omega), if_neg]
        intro hw
        obtain ⟨x1, x2⟩ := isWd_iff.mp hw
        unfold stpF at f2
        rw [Bool.or_eq_true] at f2
        rcases f2 with q | q
        · have := of_decide_eq_true q; omega
        · have a := x2 i (by omega)
          have bb := hL (p + i) (by omega) (by omega)
          unfold ltD at a
          have : ¬ b (p + i) = 96 + wE n i := by simpa using q
          omega
      | none =>
        dsimp only
        rw [J69 _ (Nat.le_refl _)]
        by_cases hw : isWd (e - p) (ltD b p) n = true
        · obtain ⟨x1, x2⟩ := isWd_iff.mp hw
          rw [if_pos hw, if_pos ⟨rfl, by omega⟩]
        · rw [if_neg hw, if_neg]
          intro ⟨_, hpi⟩
          apply hw
          refine isWd_iff.mpr ⟨by omega, fun j hj => ?_⟩
          have := ffst_none hf j (by omega)
          unfold stpF at this
          rw [Bool.or_eq_false_iff] at this
          have q : b (p + j) = 96 + wE n j := by simpa using this.2
          unfold ltD
          omega
    · intro i hi hp rc
      unfold stpF at hp
      rw [Bool.or_eq_false_iff] at hp
      have g2 : ¬ e - p ≤ i := by simpa using hp.1
      have g3 : b (p + i) = 96 + wE n i := by simpa using hp.2
      obtain ⟨v1, v2, v3⟩ := w6 i hi
      unfold gX10_word_L15
      rw [nI_add, zg_true (zok_nI (show wF n + i < 108 by omega) (by omega)), nI_cl (show wF n + i < 2 ^ 31 by omega), v1, if_neg (by rw [show (32 : Int32) = nI 32 by decide, nI_eqs (by omega) (by omega)]; omega), h22, h23, nI_add, if_neg (nI_ge (by omega) (by omega)), zg_true (zok_nI (show p + i < 700 by omega) (by omega)), zg_true (zok_nI (show wF n + i < 108 by omega) (by omega)), nI_cl (show p + i < 2 ^ 31 by omega), h.2 (p + i) (by omega), g3, if_pos rfl, nI_1]
    · intro i hi hp rc
      obtain ⟨v1, v2, v3⟩ := w6 i hi
      unfold gX10_word_L15
      rw [nI_add, zg_true (zok_nI (show wF n + i < 108 by omega) (by omega)), nI_cl (show wF n + i < 2 ^ 31 by omega), v1, if_neg (by rw [show (32 : Int32) = nI 32 by decide, nI_eqs (by omega) (by omega)]; omega), h22, h23, nI_add]
      by_cases g2 : e - p ≤ i
      · rw [if_pos (nI_le (by omega) (by omega))]
      · have g3 : ¬ b (p + i) = 96 + wE n i := by
          unfold stpF at hp
          rw [Bool.or_eq_true] at hp
          rcases hp with q | q
          · exact absurd (of_decide_eq_true q) g2
          · simpa using q
        have bb := ht.2 (p + i) (by omega)
        rw [if_neg (nI_ge (by omega) (by omega)), zg_true (zok_nI (show p + i < 700 by omega) (by omega)), zg_true (zok_nI (show wF n + i < 108 by omega) (by omega)), nI_cl (show p + i < 2 ^ 31 by omega), h.2 (p + i) (by omega), if_neg (by rw [nI_eqs (by omega) (by omega)]; exact g3)]
    · intro rc
      unfold gX10_word_L15
      rw [nI_add, zg_true (zok_nI (show wF n + (wL n).length < 108 by omega) (by omega)), nI_cl (show wF n + (wL n).length < 2 ^ 31 by omega), w5, if_pos rfl]
  unfold gX10_word
  rw [zfix_find (B := gX10_word_L4 M) (fun n => (nI n, nI (wF n))) (isWd (e - p) (ltD b p)) (fun n => some (nI n)) (some (-1)) 22 (by rw [nI_0, show wF 0 = 0 from rfl, nI_0]) (by unfold zFu; omega) ?_ ?_ ?_]
  · cases ffst (isWd (e - p) (ltD b p)) 22 <;> rfl
  · intro n hn hp rc
    obtain ⟨w1, w2, w3, w4, w5, w6⟩ := wd_at hn
    unfold gX10_word_L4
    dsimp only
    rw [show (108 : Int32) = nI 108 by decide, if_neg (nI_ge (by omega) (by omega)), try_ n hn rc, hp, if_neg (by decide)]
  · intro n hn hp rc
    obtain ⟨w1, w2, w3, w4, w5, w6⟩ := wd_at hn
    unfold gX10_word_L4
    dsimp only
    rw [show (108 : Int32) = nI 108 by decide, if_neg (nI_ge (by omega) (by omega)), try_ n hn rc, hp, if_pos rfl]
  · intro rc
    unfold gX10_word_L4
    dsimp only
    rw [show (108 : Int32) = nI 108 by decide, if_pos (nI_le (show 108 ≤ wF 22 by decide) (by decide))]
