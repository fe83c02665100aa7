/-! what comes: ahead, goes, out, tried, chance, go -/
theorem and1 (x : Int32) : x &&& 1 = 0 ∨ x &&& 1 = 1 := by
  have h : (x &&& 1).toBitVec.toNat < 2 := by
    show (x.toBitVec &&& 1#32).toNat < 2
    rw [BitVec.toNat_and]
    exact Nat.lt_of_le_of_lt Nat.and_le_right (by decide)
  rcases (show (x &&& 1).toBitVec.toNat = 0 ∨ (x &&& 1).toBitVec.toNat = 1 by omega) with e | e
  · left
    apply Int32.toBitVec_inj.mp
    exact BitVec.eq_of_toNat_eq e
  · right
    apply Int32.toBitVec_inj.mp
    exact BitVec.eq_of_toNat_eq e
/-- the class's world of trial -/
def cT (M : zM) (p : Nat) (q : PPt) (V : AV) : Prop := M.2.2 65 0 = some p ∧ cPl M p q ∧ cV M q 65 V
theorem cT.step {M : zM} {p : Nat} {q : PPt} {V : AV} {wy : Int32} (h : cT M p q V) (hq : pI q) (hI : wI q V) :
    ∃ M', gX8_pass 65 wy M = some M' ∧ FrW 65 p M M' ∧ cT M' p q (qPass q wy V).1 ∧ M'.1 65 15 = (qPass q wy V).2 := by
  obtain ⟨M', g1, g2, g3, g4⟩ := c_pass (w := 65) (wy := wy) (Or.inr (Or.inl rfl)) h.1 h.2.1 hq h.2.2 hI
  exact ⟨M', g1, g2, ⟨by rw [g2.2.1]; exact h.1, h.2.1.fr (Or.inr (Or.inl rfl)) g2, g3⟩, g4⟩
theorem CR.fr65 {M M' : zM} {p : Nat} {q : PPt} {V : AV} {I : Option AV} {D : Nat × (Nat → AV)} {S : SSt} {B : Nat × (Nat → Int32)} {F : Int32 × Int32} (h : CR M q V I D S B F) (hf : FrW 65 p M M') : CR M' q V I D S B F := h.mono (fun a i d _ => hf.1 a i (by unfold dC at d; omega)) (fun a _ _ => by rw [hf.2.1])
theorem MR.fr65 {M M' : zM} {p : Nat} {q : PPt} {V : AV} {I : Option AV} {D : Nat × (Nat → AV)} {S : SSt} {B : Nat × (Nat → Int32)} {F : Int32 × Int32} (h : MR M q V I D S B F) (hf : FrW 65 p M M') : MR M' q V I D S B F := h.mono (fun a i d => hf.1 a i (by unfold dM at d; omega))
theorem c_begin {M : zM} {q : PPt} {V : AV} {I : Option AV} {D : Nat × (Nat → AV)} {S : SSt} {B : Nat × (Nat → Int32)} {F : Int32 × Int32} (hC : CR M q V I D S B F) (hM : MR M q V I D S B F) (hq : pI q) (hI : wI q V) :
    ∃ M3 p, gX8_become 65 55 M = some M3 ∧ CR M3 q V I D S B F ∧ MR M3 q V I D S B F ∧ cT M3 p q V := by
  have hC' := hC
  obtain ⟨p, c1, c2, c3, c4⟩ := hC'
  obtain ⟨Mb, b1, b2, b3, b4, b5⟩ := s_becomes (M := M) (w := 65) (v := 55) (p := p) (n := q.1) (T := q.2.1) (Or.inr (Or.inl rfl)) (Or.inl rfl) (by omega) c1.2.1 c2.1.1 hq.1.1 hq.1.2.1 (fun k hk => by rw [show vC q.1 q.2.1 M 55 = V from c3]; exact hI.2.1 k hk)
  refine ⟨Mb, p, b1, hC.mono (fun a i d _ => by rw [b2 a (by unfold dC at d; omega)]) (fun a z _ => ?_), hM.mono (fun a i d => by rw [b2 a (by unfold dM at d; omega)]), ?_, c2.mono (fun a i z1 z2 => by rw [b2 a (by have := isPl_lt c2.1.1; omega)]), ?_⟩
  · rw [b4]
    funext i
    exact zF_of (by omega)
  · rw [b4]; exact zF_at
  · unfold cV; rw [b5]; exact c3
/-- the reference's fire of trial -/
def mT (M : zM) (q : PPt) (V : AV) : Prop := mPl M q ∧ mV M q 1 V ∧ vHd M 1 q.1
theorem mT.step {M : zM} {q : PPt} {V : AV} {wy by' : Int32} (h : mT M q V) (hq : pI q) (hw : wyOK M wy by') (hI : wI q V) :
    ∃ M', gX10_passes 1 by' M = some M' ∧ FrM 1 M M' ∧ mT M' q (qPass q wy V).1 ∧ M'.1 98 53 = (qPass q wy V).2 := by
  obtain ⟨M', g1, g2, g3, g4⟩ := m_pass (f := 1) (wy := wy) (by omega) h.1 hq hw h.2.1 h.2.2 hI
  exact ⟨M', g1, g2, ⟨h.1.fr g2, g3, h.2.2.fr g2⟩, g4⟩
theorem CR.hi {M M' : zM} {q : PPt} {V : AV} {I : Option AV} {D : Nat × (Nat → AV)} {S : SSt} {B : Nat × (Nat → Int32)} {F : Int32 × Int32} (h : CR M q V I D S B F) (he : ∀ a i, a < 98 → M'.1 a i = M.1 a i) (hr : M'.2.2 = M.2.2) : CR M' q V I D S B F := h.mono (fun a i d _ => he a i (by unfold dC at d; omega)) (fun a _ _ => by rw [hr])
theorem CR.frM {M M' : zM} {f : Nat} {q : PPt} {V : AV} {I : Option AV} {D : Nat × (Nat → AV)} {S : SSt} {B : Nat × (Nat → Int32)} {F : Int32 × Int32} (h : CR M q V I D S B F) (hf : FrM f M M') : CR M' q V I D S B F := h.hi (fun a i z => hf.1 a i (by unfold MF; omega)) hf.2.1
theorem MR.fr1 {M M' : zM} {q : PPt} {V : AV} {I : Option AV} {D : Nat × (Nat → AV)} {S : SSt} {B : Nat × (Nat → Int32)} {F : Int32 × Int32} (h : MR M q V I D S B F) (hf : FrM 1 M M') : MR M' q V I D S B F := h.mono (fun a i d => hf.1 a i (by unfold dM at d; unfold MF; omega))
theorem m_begin {M : zM} {q : PPt} {V : AV} {I : Option AV} {D : Nat × (Nat → AV)} {S : SSt} {B : Nat × (Nat → Int32)} {F : Int32 × Int32} (hC : CR M q V I D S B F) (hM : MR M q V I D S B F) (hq : pI q) (hI : wI q V) :
    ∃ M3, gX10_copies 1 0 M = some M3 ∧ CR M3 q V I D S B F ∧ MR M3 q V I D S B F ∧ mT M3 q V := by
  obtain ⟨M2, e1, e2, e3, e4, e5, e6⟩ := r_copies (M := M) (a := 1) (b := 0) (by omega) (by omega) (by omega)
  have hM2 : MR M2 q V I D S B F := hM.mono (fun a i d => e3 a i (by unfold dM at d; unfold CF; omega))
  have hv : mV M2 q 1 V := by
    unfold mV
    rw [vM_copied hq.1.1 hq.1.2.1 e3 e4 e5 e6]
    exact hM.2.2.1
  exact ⟨M2, e1, hC.hi (fun a i z => e3 a i (CF_lo (by omega))) (by rw [e2]), hM2, hM2.2.1, hv, hv.hd hM2.1.ne hI.2.1⟩
theorem wy0 {M : zM} (h : mTr M) : wyOK M 0 0 := by
  unfold wyOK
  rw [h.1]
  refine ⟨⟨fun _ => rfl, fun _ => by decide⟩, ⟨fun _ => by decide, fun _ => by decide⟩, ⟨fun _ => by decide, fun _ => by decide⟩, ⟨fun _ => by decide, fun _ => by decide⟩, ⟨fun _ => by decide, fun _ => by decide⟩⟩
theorem wy1 {M : zM} (h : mTr M) : wyOK M 1 1 := by
  unfold wyOK
  rw [h.1]
  refine ⟨⟨fun h => absurd h (by decide), fun h => absurd h (by decide)⟩, ⟨fun _ => by decide, fun _ => by decide⟩, ⟨fun _ => by decide, fun _ => by decide⟩, ⟨fun _ => by decide, fun _ => by decide⟩, ⟨fun _ => by decide, fun _ => by decide⟩⟩
/-- counts of a world of trial, of the world that is -/
theorem cT.things {M : zM} {p : Nat} {q : PPt} {V : AV} (h : cT M p q V) (x : Int32) : gX8_thingsThatAre 65 x M = some (nI (bcnt (fun t => V 8 t == x) q.2.1)) := by
  rw [s_things ⟨Or.inr (Or.inl rfl), h.1, h.2.1.1⟩, show vC q.1 q.2.1 M 65 = V from h.2.2]
theorem cT.men {M : zM} {p : Nat} {q : PPt} {V : AV} (h : cT M p q V) (x : Int32) : gX8_menThatAre 65 x M = some (nI (bcnt (fun t => V 4 t == x) q.1)) := by
  rw [s_men ⟨Or.inr (Or.inl rfl), h.1, h.2.1.1⟩, show vC q.1 q.2.1 M 65 = V from h.2.2]
theorem CR.things {M : zM} {q : PPt} {V : AV} {I : Option AV} {D : Nat × (Nat → AV)} {S : SSt} {B : Nat × (Nat → Int32)} {F : Int32 × Int32} (h : CR M q V I D S B F) (x : Int32) : gX8_thingsThatAre 55 x M = some (nI (bcnt (fun t => V 8 t == x) q.2.1)) := by
  obtain ⟨p, c1, c2, c3, c4⟩ := h
  rw [s_things ⟨Or.inl rfl, c1.2.1, c2.1⟩, show vC q.1 q.2.1 M 55 = V from c3]
theorem CR.men {M : zM} {q : PPt} {V : AV} {I : Option AV} {D : Nat × (Nat → AV)} {S : SSt} {B : Nat × (Nat → Int32)} {F : Int32 × Int32} (h : CR M q V I D S B F) (x : Int32) : gX8_menThatAre 55 x M = some (nI (bcnt (fun t => V 4 t == x) q.1)) := by
  obtain ⟨p, c1, c2, c3, c4⟩ := h
  rw [s_men ⟨Or.inl rfl, c1.2.1, c2.1⟩, show vC q.1 q.2.1 M 55 = V from c3]
theorem mV.things {M : zM} {q : PPt} {f : Nat} {V : AV} (h : mV M q f V) (hP : mPl M q) (hf : f < 23) (x : Int32) : gX10_thingsOf (nI f) x M = some (nI (bcnt (fun t => V 8 t == x) q.2.1)) := by
  rw [r_things hP.1 hf, show vM q.1 q.2.1 M f = V from h]
theorem mV.men {M : zM} {q : PPt} {f : Nat} {V : AV} (h : mV M q f V) (hP : mPl M q) (hf : f < 23) (x : Int32) : gX10_menOf (nI f) x M = some (nI (bcnt (fun t => V 4 t == x) q.1)) := by
  rw [r_men hP.1 hf, show vM q.1 q.2.1 M f = V from h]
/-- the reference goes on by so many STEPS -/
theorem m_goesOn {M : zM} {q : PPt} {V : AV} {wy : Int32} {n : Nat} (h : mT M q V) (hq : pI q) (hw : wyOK M wy 0) (hI : wI q V) (hn : n ≤ 99) :
    ∃ M', gX10_goesOn (nI n) M = some M' ∧ FrM 1 M M' ∧ mT M' q (qRun q wy V n) := by
  unfold gX10_goesOn
  obtain ⟨s', N', ⟨Mk, rfl, g1, g2⟩, e⟩ := zfix_inv (B := gX10_goesOn_L2 (nI n)) (fun k s => ∃ Mk : zM, s = (nI k, Mk) ∧ FrM 1 M Mk ∧ mT Mk q (qRun q wy V k)) n (fun k hk s hs => by
      obtain ⟨Mk, rfl, g1, g2⟩ := hs
      obtain ⟨M', k1, k2, k3, k4⟩ := g2.step hq (hw.fr g1) (qRun_wI hq hI k)
      refine ⟨(nI (k + 1), M'), ⟨M', rfl, g1.tr k2, k3⟩, fun rc => ?_⟩
      unfold gX10_goesOn_L2
      dsimp only
      rw [if_neg (nI_ge hk (by omega)), zcV_some k1, nI_1]) n 0 zFu (0, M) (by omega) (by unfold zFu; omega) ⟨M, by rw [nI_0], FrM.rf, h⟩
  refine ⟨Mk, ?_, g1, g2⟩
  rw [e]
  unfold gX10_goesOn_L2
  dsimp only
  rw [if_pos (nI_le (Nat.le_refl _) (by omega))]
/-! ahead -/
def sAhead (q : PPt) (V W : AV) (y : Int32) : Int32 := if y = 0 then nI (bcnt (fun t => W 8 t == 2) q.2.1) - nI (bcnt (fun t => V 8 t == 2) q.2.1) else if y = 1 then nI (bcnt (fun t => W 8 t == 3) q.2.1) - nI (bcnt (fun t => V 8 t == 3) q.2.1) else if y = 2 then nI (bcnt (fun t => W 4 t == 2) q.1) - nI (bcnt (fun t => V 4 t == 2) q.1) else if y = 3 then W 0 11 else W 0 12
theorem k_ahead {M : zM} (h : Rel M) (x y : Int32) : ∃ r M1 M2, gX9_ahead x y M = some (r, M1) ∧ gX10_ahead x y M1 = some (r, M2) ∧ Rel M2 := by
  have h' := h
  obtain ⟨q, V, I, D, S, B, F, hA, hC, hM⟩ := h
  have hq := hA.1
  have hI := hA.2.1
  have out : (x < 0 ∨ 99 < x ∨ y < 0 ∨ ¬ y ≤ 4) → ∀ r', some ((-1 : Int32), M) = r' → ∃ r M1 M2, r' = some (r, M1) ∧ gX10_ahead x y M1 = some (r, M2) ∧ Rel M2 := fun hc r' hr => by
    subst hr
    refine ⟨-1, M, zI M 98 0 0, rfl, ?_, h'.z⟩
    unfold gX10_ahead
    rw [zlet_eq]
    by_cases h1 : x < 0
    · rw [if_pos h1]
    · rw [if_neg h1]
      by_cases h2 : 99 < x
      · rw [if_pos h2]
      · rw [if_neg h2]
        by_cases h3 : y < 0
        · rw [if_pos h3]
        · rw [if_neg h3, if_neg (by rcases hc with z | z | z | z; exact absurd z h1; exact absurd z h2; exact absurd z h3; exact z)]
  unfold gX9_ahead gX9_isCount
  by_cases h1 : x < 0
  · rw [if_pos h1, zcI_some rfl, if_pos rfl]; exact out (Or.inl h1) _ rfl
  · rw [if_neg h1]
    by_cases h2 : 99 < x
    · rw [if_pos h2, zcI_some rfl, if_pos rfl]; exact out (Or.inr (Or.inl h2)) _ rfl
    · rw [if_neg h2, zcI_some rfl, if_neg (show ¬ (1 : Int32) = 0 by decide)]
      by_cases h3 : y < 0
      · rw [if_pos h3]; exact out (Or.inr (Or.inr (Or.inl h3))) _ rfl
      · rw [if_neg h3]
        by_cases h4 : y ≤ 4
        · rw [if_pos h4]
          obtain ⟨n, hn, rfl⟩ := cnt_of (n := 99) (by decide) (by omega) h1 (Int32.not_lt.mp h2)
          obtain ⟨M3, p, b1, hC3, hM3, hT3⟩ := c_begin hC hM hq hI
          rw [zcV_some b1]
          obtain ⟨s', N', ⟨Mk, rfl, g1, g2⟩, e⟩ := zfix_inv (B := gX9_ahead_L31 (nI n) y) (fun k s => ∃ Mk : zM, s = (nI k, Mk) ∧ FrW 65 p M3 Mk ∧ cT Mk p q (qRun q 0 V k)) n (fun k hk s hs => by
              obtain ⟨Mk, rfl, g1, g2⟩ := hs
              obtain ⟨M', k1, k2, k3, k4⟩ := g2.step (wy := 0) hq (qRun_wI hq hI k)
              refine ⟨(nI (k + 1), M'), ⟨M', rfl, g1.tr k2, k3⟩, fun rc => ?_⟩
              unfold gX9_ahead_L31
              dsimp only
              rw [if_neg (nI_ge hk (by omega)), zcV_some k1, nI_1]) n 0 zFu (0, M3) (by omega) (by unfold zFu; omega) ⟨M3, by rw [nI_0], FrW.rf, hT3⟩
          have hCk := hC3.fr65 g1
          have hMk := hM3.fr65 g1
          obtain ⟨M5, d1, hC5, hM5, hT5⟩ := m_begin hCk.z (hMk.z (y := 0)) hq hI
          obtain ⟨M6, f1, f2, f3⟩ := m_goesOn (wy := 0) hT5 hq (wy0 hM5.1) hI hn
          have hC6 := hC5.frM f2
          have hM6 := hM5.fr1 f2
          refine ⟨sAhead q V (qRun q 0 V n) y, Mk, M6, ?_, ?_, q, V, I, D, S, B, F, hA, hC6, hM6⟩
          · rw [e]
            unfold gX9_ahead_L31 sAhead
            dsimp only
            rw [if_pos (nI_le (Nat.le_refl _) (by omega)), zcI_some (g2.things 2), zcI_some (hCk.things 2), zcI_some (g2.things 3), zcI_some (hCk.things 3), zcI_some (g2.men 2), zcI_some (hCk.men 2), show Mk.1 65 11 = _ from g2.2.2.oo (by omega) (by omega), show Mk.1 65 12 = _ from g2.2.2.oo (by omega) (by omega)]
            repeat' split
            all_goals rfl
          · unfold gX10_ahead gX10_runs sAhead
            rw [zlet_eq, if_neg h1, if_neg h2, if_neg h3, if_pos h4, zcV_some d1, zcV_some f1, zcV_some rfl, zcI_some (show gX10_thingsOf 1 2 M6 = _ from f3.2.1.things f3.1 (by omega) 2), zcI_some (show gX10_thingsOf 0 2 M6 = _ from hM6.2.2.1.things hM6.2.1 (by omega) 2), zcI_some (show gX10_thingsOf 1 3 M6 = _ from f3.2.1.things f3.1 (by omega) 3), zcI_some (show gX10_thingsOf 0 3 M6 = _ from hM6.2.2.1.things hM6.2.1 (by omega) 3), zcI_some (show gX10_menOf 1 2 M6 = _ from f3.2.1.men f3.1 (by omega) 2), zcI_some (show gX10_menOf 0 2 M6 = _ from hM6.2.2.1.men hM6.2.1 (by omega) 2), cl1, show M6.1 120 1 = _ from f3.2.1.oo (k := 11) (by omega) (by omega), show M6.1 121 1 = _ from f3.2.1.oo (k := 12) (by omega) (by omega)]
            repeat' split
            all_goals rfl
        · rw [if_neg h4]; exact out (Or.inr (Or.inr (Or.inr h4))) _ rfl
/-! goes, out -/
theorem lit99 : (99 : Int32) = nI 99 := by decide
theorem k_goes {M : zM} (h : Rel M) (x : Int32) : ∃ r M1 M2, gX9_goes x M = some (r, M1) ∧ gX10_goes x M1 = some (r, M2) ∧ Rel M2 := by
  have h' := h
  obtain ⟨q, V, I, D, S, B, F, hA, hC, hM⟩ := h
  have hq := hA.1
  have hI := hA.2.1
  unfold gX9_goes
  rw [zcI_some (hC.man x)]
  rcases isM_cases (n := q.1) (by have := hq.1.1; omega) x with e | ⟨e, m, hm, rfl⟩
  · rw [e, if_pos rfl]
    refine ⟨-1, M, zI M 98 0 0, rfl, ?_, h'.z⟩
    unfold gX10_goes
    rw [zlet_eq, zcI_some (hM.z.2.1.man x), e, if_pos rfl]
  · rw [e, if_neg (show ¬ (1 : Int32) = 0 by decide)]
    obtain ⟨M3, p, b1, hC3, hM3, hT3⟩ := c_begin hC hM hq hI
    rw [zcV_some b1]
    have hP : ∃ P : Nat → Bool, P = fun k => ((((qPass q 0 (qRun q 0 V k)).2 : Int32) >>> ((nI m : Int32) &&& 31)) &&& 1) == 1 := ⟨_, rfl⟩
    obtain ⟨P, hP⟩ := hP
    have P1 : ∀ k, P k = true → ((((qPass q 0 (qRun q 0 V k)).2 : Int32) >>> ((nI m : Int32) &&& 31)) &&& 1) = 1 := fun k hk => by rw [hP] at hk; simpa using hk
    have P0 : ∀ k, P k = false → ((((qPass q 0 (qRun q 0 V k)).2 : Int32) >>> ((nI m : Int32) &&& 31)) &&& 1) = 0 := fun k hk => by
      rcases and1 (((qPass q 0 (qRun q 0 V k)).2 : Int32) >>> ((nI m : Int32) &&& 31)) with w | w
      · exact w
      · rw [hP] at hk; rw [beq_eq_false_iff_ne] at hk; exact absurd w hk
    obtain ⟨r1, e1, hr1⟩ := zfix_seek (B := gX9_goes_L23 (nI m)) (s0 := (1, M3)) (fun k s => ∃ Mk : zM, s = (nI (k + 1), Mk) ∧ FrW 65 p M3 Mk ∧ cT Mk p q (qRun q 0 V k)) P (fun k r => ∃ M', r = some (nI (k + 1), M') ∧ FrW 65 p M3 M') (fun r => ∃ M', r = some (-2, M') ∧ FrW 65 p M3 M') 99 ⟨M3, rfl, FrW.rf, hT3⟩ (by unfold zFu; omega) (fun k hk hp s hs => by
        obtain ⟨Mk, rfl, g1, g2⟩ := hs
        obtain ⟨M', k1, k2, k3, k4⟩ := g2.step (wy := 0) hq (qRun_wI hq hI k)
        refine ⟨(nI (k + 1 + 1), M'), ⟨M', rfl, g1.tr k2, k3⟩, fun rc => ?_⟩
        unfold gX9_goes_L23
        dsimp only
        rw [lit99, if_neg (by rw [nI_lt_iff (by omega) (by omega)]; omega), zcV_some k1, k4, if_pos (P0 k hp), nI_1]) (fun k hk hp s hs => by
        obtain ⟨Mk, rfl, g1, g2⟩ := hs
        obtain ⟨M', k1, k2, k3, k4⟩ := g2.step (wy := 0) hq (qRun_wI hq hI k)
        refine ⟨some (nI (k + 1), M'), ⟨M', rfl, g1.tr k2⟩, fun rc => ?_⟩
        unfold gX9_goes_L23
        dsimp only
        rw [lit99, if_neg (by rw [nI_lt_iff (by omega) (by omega)]; omega), zcV_some k1, k4, P1 k hp, if_neg (by decide)]) (fun s hs => by
        obtain ⟨Mk, rfl, g1, g2⟩ := hs
        refine ⟨some (-2, Mk), ⟨Mk, rfl, g1⟩, fun rc => ?_⟩
        unfold gX9_goes_L23
        dsimp only
        rw [lit99, if_pos (by rw [nI_lt_iff (by omega) (by omega)]; omega)])
    have hfin : ∃ M4, zfix zFu (gX9_goes_L23 (nI m)) (1, M3) = some ((match ffst P 99 with | some k => nI (k + 1) | none => -2), M4) ∧ FrW 65 p M3 M4 := by
      rw [e1]
      cases hf : ffst P 99 with
      | some k => rw [hf] at hr1; exact hr1
      | none => rw [hf] at hr1; exact hr1
    obtain ⟨M4, e4, f4⟩ := hfin
    have hC4 := hC3.fr65 f4
    have hM4 := hM3.fr65 f4
    obtain ⟨M5, d1, hC5, hM5, hT5⟩ := m_begin hC4.z (hM4.z (y := 0)) hq hI
    obtain ⟨r2, e2, hr2⟩ := zfix_seek (B := gX10_goes_L23 (nI m)) (s0 := (1, M5)) (fun k s => ∃ Mk : zM, s = (nI (k + 1), Mk) ∧ FrM 1 M5 Mk ∧ mT Mk q (qRun q 0 V k)) P (fun k r => ∃ M', r = some (nI (k + 1), M') ∧ FrM 1 M5 M') (fun r => ∃ M', r = some (-2, M') ∧ FrM 1 M5 M') 99 ⟨M5, rfl, FrM.rf, hT5⟩ (by unfold zFu; omega) (fun k hk hp s hs => by
        obtain ⟨Mk, rfl, g1, g2⟩ := hs
        obtain ⟨M', k1, k2, k3, k4⟩ := g2.step (wy := 0) hq ((wy0 hM5.1).fr g1) (qRun_wI hq hI k)
        refine ⟨(nI (k + 1 + 1), M'), ⟨M', rfl, g1.tr k2, k3⟩, fun rc => ?_⟩
        unfold gX10_goes_L23
        dsimp only
        rw [lit99, if_neg (by rw [nI_lt_iff (by omega) (by omega)]; omega), zcV_some k1, k4, P0 k hp, if_neg (by decide), nI_1]) (fun k hk hp s hs => by
        obtain ⟨Mk, rfl, g1, g2⟩ := hs
        obtain ⟨M', k1, k2, k3, k4⟩ := g2.step (wy := 0) hq ((wy0 hM5.1).fr g1) (qRun_wI hq hI k)
        refine ⟨some (nI (k + 1), M'), ⟨M', rfl, g1.tr k2⟩, fun rc => ?_⟩
        unfold gX10_goes_L23
        dsimp only
        rw [lit99, if_neg (by rw [nI_lt_iff (by omega) (by omega)]; omega), zcV_some k1, k4, P1 k hp, if_pos rfl]) (fun s hs => by
        obtain ⟨Mk, rfl, g1, g2⟩ := hs
        refine ⟨some (-2, Mk), ⟨Mk, rfl, g1⟩, fun rc => ?_⟩
        unfold gX10_goes_L23
        dsimp only
        rw [lit99, if_pos (by rw [nI_lt_iff (by omega) (by omega)]; omega)])
    have hfin : ∃ M6, zfix zFu (gX10_goes_L23 (nI m)) (1, M5) = some ((match ffst P 99 with | some k => nI (k + 1) | none => -2), M6) ∧ FrM 1 M5 M6 := by
      rw [e2]
      cases hf : ffst P 99 with
      | some k => rw [hf] at hr2; exact hr2
      | none => rw [hf] at hr2; exact hr2
    obtain ⟨M6, e6, f6⟩ := hfin
    refine ⟨_, M4, M6, e4, ?_, q, V, I, D, S, B, F, hA, hC5.frM f6, hM5.fr1 f6⟩
    unfold gX10_goes
    rw [zlet_eq, zcI_some (hM4.z.2.1.man _), e, if_neg (show ¬ (1 : Int32) = 0 by decide), zcV_some d1]
    exact e6
theorem k_out {M : zM} (h : Rel M) (x : Int32) : ∃ r M1 M2, gX9_out x M = some (r, M1) ∧ gX10_out x M1 = some (r, M2) ∧ Rel M2 := by
  have h' := h
  obtain ⟨q, V, I, D, S, B, F, hA, hC, hM⟩ := h
  have hq := hA.1
  have hI := hA.2.1
  have hT8 := hq.1.2.1
  unfold gX9_out
  rw [zcI_some (hC.thing x)]
  rcases isM_cases (n := q.2.1) (by omega) x with e | ⟨e, t, ht, rfl⟩
  · rw [e, if_pos rfl]
    refine ⟨-1, M, zI M 98 0 0, rfl, ?_, h'.z⟩
    unfold gX10_out
    rw [zlet_eq, zcI_some (hM.z.2.1.thing x), e, if_pos rfl]
  · rw [e, if_neg (show ¬ (1 : Int32) = 0 by decide)]
    obtain ⟨M3, p, b1, hC3, hM3, hT3⟩ := c_begin hC hM hq hI
    rw [zcV_some b1]
    have hP : ∃ P : Nat → Bool, P = fun k => (qRun q 0 V k) 8 t == 2 := ⟨_, rfl⟩
    obtain ⟨P, hP⟩ := hP
    have P1 : ∀ k, P k = true → (qRun q 0 V k) 8 t = 2 := fun k hk => by rw [hP] at hk; simpa using hk
    have P0 : ∀ k, P k = false → ¬ (qRun q 0 V k) 8 t = 2 := fun k hk => by rw [hP] at hk; simpa using hk
    have q8 : ∀ e : Option (Int32 × zM), zg (zok (nI t) 8) e = e := fun e => zg_true (zok_nI (show t < 8 by omega) (by omega))
    have q184 : ∀ e : Option (Int32 × zM), zg (zok (nI (8 + t)) 184) e = e := fun e => zg_true (zok_nI (show 8 + t < 184 by omega) (by omega))
    have vt : ∀ {Mk : zM} {W : AV}, cT Mk p q W → Mk.1 73 t = W 8 t := fun hk => hk.2.2.tt (c := 8) (by omega) (by omega) ht
    have vt' : ∀ {Mk : zM} {W : AV}, mT Mk q W → Mk.1 130 (8 + t) = W 8 t := fun hk => hk.2.1.tt (c := 8) (by omega) (by omega) ht
    obtain ⟨r1, e1, hr1⟩ := zfix_seek (B := gX9_out_L23 (nI t)) (s0 := (0, M3)) (fun k s => ∃ Mk : zM, s = (nI k, Mk) ∧ FrW 65 p M3 Mk ∧ cT Mk p q (qRun q 0 V k)) P (fun k r => ∃ M', r = some (nI k, M') ∧ FrW 65 p M3 M') (fun r => ∃ M', r = some (-2, M') ∧ FrW 65 p M3 M') 100 ⟨M3, by rw [nI_0], FrW.rf, hT3⟩ (by unfold zFu; omega) (fun k hk hp s hs => by
        obtain ⟨Mk, rfl, g1, g2⟩ := hs
        obtain ⟨M', k1, k2, k3, k4⟩ := g2.step (wy := 0) hq (qRun_wI hq hI k)
        refine ⟨(nI (k + 1), M'), ⟨M', rfl, g1.tr k2, k3⟩, fun rc => ?_⟩
        unfold gX9_out_L23
        dsimp only
        rw [lit99, if_neg (by rw [nI_lt_iff (by omega) (by omega)]; omega), q8, nI_cl (by omega), vt g2, if_neg (P0 k hp), zcV_some k1, nI_1]) (fun k hk hp s hs => by
        obtain ⟨Mk, rfl, g1, g2⟩ := hs
        refine ⟨some (nI k, Mk), ⟨Mk, rfl, g1⟩, fun rc => ?_⟩
        unfold gX9_out_L23
        dsimp only
        rw [lit99, if_neg (by rw [nI_lt_iff (by omega) (by omega)]; omega), q8, nI_cl (by omega), vt g2, if_pos (P1 k hp)]) (fun s hs => by
        obtain ⟨Mk, rfl, g1, g2⟩ := hs
        refine ⟨some (-2, Mk), ⟨Mk, rfl, g1⟩, fun rc => ?_⟩
        unfold gX9_out_L23
        dsimp only
        rw [lit99, if_pos (by rw [nI_lt_iff (by omega) (by omega)]; omega)])
    have hfin : ∃ M4, zfix zFu (gX9_out_L23 (nI t)) (0, M3) = some ((match ffst P 100 with | some k => nI k | none => -2), M4) ∧ FrW 65 p M3 M4 := by
      rw [e1]
      cases hf : ffst P 100 with
      | some k => rw [hf] at hr1; exact hr1
      | none => rw [hf] at hr1; exact hr1
    obtain ⟨M4, e4, f4⟩ := hfin
    have hC4 := hC3.fr65 f4
    have hM4 := hM3.fr65 f4
    obtain ⟨M5, d1, hC5, hM5, hT5⟩ := m_begin hC4.z (hM4.z (y := 0)) hq hI
    obtain ⟨r2, e2, hr2⟩ := zfix_seek (B := gX10_out_L23 (nI t)) (s0 := (0, M5)) (fun k s => ∃ Mk : zM, s = (nI k, Mk) ∧ FrM 1 M5 Mk ∧ mT Mk q (qRun q 0 V k)) P (fun k r => ∃ M', r = some (nI k, M') ∧ FrM 1 M5 M') (fun r => ∃ M', r = some (-2, M') ∧ FrM 1 M5 M') 100 ⟨M5, by rw [nI_0], FrM.rf, hT5⟩ (by unfold zFu; omega) (fun k hk hp s hs => by
        obtain ⟨Mk, rfl, g1, g2⟩ := hs
        obtain ⟨M', k1, k2, k3, k4⟩ := g2.step (wy := 0) hq ((wy0 hM5.1).fr g1) (qRun_wI hq hI k)
        refine ⟨(nI (k + 1), M'), ⟨M', rfl, g1.tr k2, k3⟩, fun rc => ?_⟩
        unfold gX10_out_L23
        dsimp only
        rw [lit99, if_neg (by rw [nI_lt_iff (by omega) (by omega)]; omega), nI_lit8, nI_add, q184, nI_cl (by omega), vt' g2, if_neg (P0 k hp), zcV_some k1, nI_1]) (fun k hk hp s hs => by
        obtain ⟨Mk, rfl, g1, g2⟩ := hs
        refine ⟨some (nI k, Mk), ⟨Mk, rfl, g1⟩, fun rc => ?_⟩
        unfold gX10_out_L23
        dsimp only
        rw [lit99, if_neg (by rw [nI_lt_iff (by omega) (by omega)]; omega), nI_lit8, nI_add, q184, nI_cl (by omega), vt' g2, if_pos (P1 k hp)]) (fun s hs => by
        obtain ⟨Mk, rfl, g1, g2⟩ := hs
        refine ⟨some (-2, Mk), ⟨Mk, rfl, g1⟩, fun rc => ?_⟩
        unfold gX10_out_L23
        dsimp only
        rw [lit99, if_pos (by rw [nI_lt_iff (by omega) (by omega)]; omega)])
    have hfin : ∃ M6, zfix zFu (gX10_out_L23 (nI t)) (0, M5) = some ((match ffst P 100 with | some k => nI k | none => -2), M6) ∧ FrM 1 M5 M6 := by
      rw [e2]
      cases hf : ffst P 100 with
      | some k => rw [hf] at hr2; exact hr2
      | none => rw [hf] at hr2; exact hr2
    obtain ⟨M6, e6, f6⟩ := hfin
    refine ⟨_, M4, M6, e4, ?_, q, V, I, D, S, B, F, hA, hC5.frM f6, hM5.fr1 f6⟩
    unfold gX10_out
    rw [zlet_eq, zcI_some (hM4.z.2.1.thing _), e, if_neg (show ¬ (1 : Int32) = 0 by decide), zcV_some d1]
    exact e6
