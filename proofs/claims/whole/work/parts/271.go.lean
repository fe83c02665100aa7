/-! go -/
theorem FrM.out {f : Nat} {M M' : zM} (hf : FrM f M M') {a i : Nat} (hd : dM a i) (hc : ¬ CF f a i) : M'.1 a i = M.1 a i := hf.1 a i (by
  unfold dM at hd; unfold CF at hc; unfold MF; omega)
theorem k_go {M : zM} (h : Rel M) (x : Int32) : ∃ r M1 M2, gX9_go x M = some (r, M1) ∧ gX10_go x M1 = some (r, M2) ∧ Rel M2 := by
  have h' := h
  obtain ⟨q, V, I, D, S, B, F, hA, hC, hM⟩ := h
  have hq := hA.1
  have hI := hA.2.1
  have v10 : M.1 55 10 = V 0 10 := hC.row.oo (by omega) (by omega)
  have m10 : ∀ {N : zM}, MR N q V I D S B F → N.1 118 0 = V 0 10 := fun hN => hN.2.2.1.oo (k := 10) (by omega) (by omega)
  have hz0 := hM.z (y := 0)
  unfold gX9_go
  rw [v10]
  by_cases h1 : x < 0
  · rw [if_pos h1]
    refine ⟨-1, M, zI M 98 0 0, rfl, ?_, h'.z⟩
    unfold gX10_go
    rw [zlet_eq, if_pos h1]
  · rw [if_neg h1]
    by_cases h2 : 99 < x
    · rw [if_pos h2]
      refine ⟨-1, M, zI M 98 0 0, rfl, ?_, h'.z⟩
      unfold gX10_go
      rw [zlet_eq, if_neg h1, if_pos h2]
    · rw [if_neg h2]
      by_cases h3 : V 0 10 + x ≤ 9900
      · rw [if_pos h3]
        obtain ⟨n, hn, rfl⟩ := cnt_of (n := 99) (by decide) (by omega) h1 (Int32.not_lt.mp h2)
        have hC' := hC
        obtain ⟨p, c1, c2, c3, c4⟩ := hC'
        have hp := isPl_lt c2.1.1
        obtain ⟨s', N', ⟨Mk, rfl, g1, g2⟩, e⟩ := zfix_inv (B := gX9_go_L29 (nI n)) (fun k s => ∃ Mk : zM, s = (nI k, Mk) ∧ FrW 55 p M Mk ∧ cV Mk q 55 (qRun q 1 V k)) n (fun k hk s hs => by
            obtain ⟨Mk, rfl, g1, g2⟩ := hs
            obtain ⟨M', k1, k2, k3, k4⟩ := c_pass (w := 55) (wy := 1) (Or.inl rfl) (by rw [g1.2.1]; exact c1.2.1) (c2.fr (Or.inl rfl) g1) hq g2 (qRun_wI hq hI k)
            refine ⟨(nI (k + 1), M'), ⟨M', rfl, g1.tr k2, k3⟩, fun rc => ?_⟩
            unfold gX9_go_L29
            dsimp only
            rw [if_neg (nI_ge hk (by omega)), zcV_some k1, nI_1]) n 0 zFu (0, M) (by omega) (by unfold zFu; omega) ⟨M, by rw [nI_0], FrW.rf, c3⟩
        have e10 : Mk.1 55 10 = qRun q 1 V n 0 10 := g2.oo (by omega) (by omega)
        rcases Nat.eq_zero_or_pos n with n0 | n0
        · subst n0
          have ee : zfix zFu (gX9_go_L29 (nI 0)) (0, M) = some (V 0 10, M) := by
            show gX9_go_L29 (nI 0) (zfix _ (gX9_go_L29 (nI 0))) (0, M) = _
            unfold gX9_go_L29
            dsimp only
            rw [if_pos (by decide), if_pos (by decide), v10]
          rw [ee]
          refine ⟨V 0 10, M, zI M 98 0 0, rfl, ?_, h'.z⟩
          unfold gX10_go gX10_go_J40
          rw [zlet_eq, if_neg h1, if_neg h2, cl0, m10 hz0, if_pos h3, if_pos (by decide)]
          show gX10_go_L42 (nI 0) (zfix _ (gX10_go_L42 (nI 0))) (0, zI M 98 0 0) = _
          unfold gX10_go_L42
          dsimp only
          rw [if_pos (by decide), cl0, m10 hz0]
        · have hx0 : ¬ nI n ≤ 0 := by rw [← nI_0, nI_le_iff (by omega) (by omega)]; omega
          have hC1 : CR (zI Mk 85 0 0) q (qRun q 1 V n) I (0, D.2) S B F := hC.world (fun a i z1 z2 z3 => by rw [zI_of (by omega), g1.1 a i (by omega)]) (fun a _ => by show Mk.2.2 a = _; rw [g1.2.1]) (g2.mono (fun a i z1 z2 _ => zI_of (by omega))) ⟨zI_at.trans nI_0.symm, by show 0 ≤ 20; omega, fun k hk => absurd hk (by show ¬ k < 0; omega)⟩
          have hM1 : MR (zI Mk 85 0 0) q V I D S B F := hM.mono (fun a i d => by
            have : 98 ≤ a := by unfold dM at d; omega
            rw [zI_of (by omega), g1.1 a i (by omega)])
          have hz := hM1.z (y := 0)
          have hz2 : MR (zI (zI (zI Mk 85 0 0) 98 0 0) 98 50 0) q V I (0, D.2) S B F := hz.dd (fun a i _ z => zI_of z) ⟨zI_at.trans nI_0.symm, by show 0 ≤ 20; omega, fun k hk => absurd hk (by show ¬ k < 0; omega)⟩
          obtain ⟨s2, N2, ⟨Mj, rfl, j1, j2, j3⟩, e2⟩ := zfix_inv (B := gX10_go_L42 (nI n)) (fun k s => ∃ Mj : zM, s = (nI k, Mj) ∧ FrM 0 (zI (zI (zI Mk 85 0 0) 98 0 0) 98 50 0) Mj ∧ mV Mj q 0 (qRun q 1 V k) ∧ vHd Mj 0 q.1) n (fun k hk s hs => by
              obtain ⟨Mj, rfl, j1, j2, j3⟩ := hs
              obtain ⟨M', k1, k2, k3, k4⟩ := m_pass (f := 0) (wy := 1) (by' := 1) (by omega) (hz2.2.1.fr j1) hq ((wy1 hz2.1).fr j1) j2 j3 (qRun_wI hq hI k)
              refine ⟨(nI (k + 1), M'), ⟨M', rfl, j1.tr k2, k3, j3.fr k2⟩, fun rc => ?_⟩
              unfold gX10_go_L42
              dsimp only
              rw [if_neg (nI_ge hk (by omega)), zcV_some (show gX10_passes 0 1 Mj = some M' from k1), nI_1]) n 0 zFu (0, zI (zI (zI Mk 85 0 0) 98 0 0) 98 50 0) (by omega) (by unfold zFu; omega) ⟨_, by rw [nI_0], FrM.rf, hz2.2.2.1, hz2.2.2.1.hd hz2.1.ne hI.2.1⟩
          refine ⟨qRun q 1 V n 0 10, zI Mk 85 0 0, Mj, ?_, ?_, q, qRun q 1 V n, I, (0, D.2), S, B, F, ⟨hq, qRun_wI hq hI n, hA.2.2.1, fun k hk => absurd hk (by show ¬ k < 0; omega), hA.2.2.2.2⟩, ?_, ?_⟩
          · rw [e]
            unfold gX9_go_L29
            dsimp only
            rw [if_pos (nI_le (Nat.le_refl _) (by omega)), if_neg hx0, zlet_eq, zI_of (by omega), e10]
          · unfold gX10_go gX10_go_J40
            rw [zlet_eq, if_neg h1, if_neg h2, cl0, m10 hz, if_pos h3, if_neg hx0, zlet_eq, e2]
            unfold gX10_go_L42
            dsimp only
            rw [if_pos (nI_le (Nat.le_refl _) (by omega)), cl0, show Mj.1 118 0 = _ from j2.oo (k := 10) (by omega) (by omega)]
          · refine hC1.hi (fun a i z => ?_) (by rw [j1.2.1]; rfl)
            rw [j1.1 a i (by unfold MF; omega), zI_of (by omega), zI_of (by omega)]
          · exact hz2.now (fun a i d w => j1.out d w) j2
      · rw [if_neg h3]
        refine ⟨-1, M, zI M 98 0 0, rfl, ?_, h'.z⟩
        unfold gX10_go
        rw [zlet_eq, if_neg h1, if_neg h2, cl0, m10 hz0, if_neg h3]
/-! chance -/
def cRn (wy : Int32) (M : zM) : Nat → zM
  | 0 => M
  | k + 1 => (gX8_pass 65 wy (cRn wy M k)).getD (cRn wy M k)
theorem cRn_ok {M : zM} {p : Nat} {q : PPt} {V : AV} {wy : Int32} (h : cT M p q V) (hq : pI q) (hI : wI q V) (k : Nat) : FrW 65 p M (cRn wy M k) ∧ cT (cRn wy M k) p q (qRun q wy V k) ∧ gX8_pass 65 wy (cRn wy M k) = some (cRn wy M (k + 1)) := by
  have key : ∀ k, cT (cRn wy M k) p q (qRun q wy V k) → ∃ M', gX8_pass 65 wy (cRn wy M k) = some M' ∧ cRn wy M (k + 1) = M' ∧ FrW 65 p (cRn wy M k) M' ∧ cT M' p q (qRun q wy V (k + 1)) := fun k hk => by
    obtain ⟨M', k1, k2, k3, k4⟩ := hk.step (wy := wy) hq (qRun_wI hq hI k)
    refine ⟨M', k1, ?_, k2, k3⟩
    show (gX8_pass 65 wy (cRn wy M k)).getD _ = M'
    rw [k1]; rfl
  have main : FrW 65 p M (cRn wy M k) ∧ cT (cRn wy M k) p q (qRun q wy V k) := by
    induction k with
    | zero => exact ⟨FrW.rf, h⟩
    | succ k ih =>
      obtain ⟨M', k1, k2, k3, k4⟩ := key k ih.2
      rw [k2]
      exact ⟨ih.1.tr k3, k4⟩
  obtain ⟨M', k1, k2, k3, k4⟩ := key k main.2
  exact ⟨main.1, main.2, by rw [k1, k2]⟩
def mRn (b : Int32) (M : zM) : Nat → zM
  | 0 => M
  | k + 1 => (gX10_passes 1 b (mRn b M k)).getD (mRn b M k)
theorem mRn_ok {M : zM} {q : PPt} {V : AV} {wy b : Int32} (h : mT M q V) (hq : pI q) (hw : wyOK M wy b) (hI : wI q V) (k : Nat) : FrM 1 M (mRn b M k) ∧ mT (mRn b M k) q (qRun q wy V k) ∧ gX10_passes 1 b (mRn b M k) = some (mRn b M (k + 1)) := by
  have key : ∀ k, FrM 1 M (mRn b M k) → mT (mRn b M k) q (qRun q wy V k) → ∃ M', gX10_passes 1 b (mRn b M k) = some M' ∧ mRn b M (k + 1) = M' ∧ FrM 1 (mRn b M k) M' ∧ mT M' q (qRun q wy V (k + 1)) := fun k hf hk => by
    obtain ⟨M', k1, k2, k3, k4⟩ := hk.step (wy := wy) hq (hw.fr hf) (qRun_wI hq hI k)
    refine ⟨M', k1, ?_, k2, k3⟩
    show (gX10_passes 1 b (mRn b M k)).getD _ = M'
    rw [k1]; rfl
  have main : FrM 1 M (mRn b M k) ∧ mT (mRn b M k) q (qRun q wy V k) := by
    induction k with
    | zero => exact ⟨FrM.rf, h⟩
    | succ k ih =>
      obtain ⟨M', k1, k2, k3, k4⟩ := key k ih.1 ih.2
      rw [k2]
      exact ⟨ih.1.tr k3, k4⟩
  obtain ⟨M', k1, k2, k3, k4⟩ := key k main.1 main.2
  exact ⟨main.1, main.2, by rw [k1, k2]⟩
def chS (q : PPt) (V : AV) (x : Int32) (n : Nat) (c : Int32) : Nat → Int32 × Nat
  | 0 => (x, 0)
  | j + 1 => ((qRun q 1 (vset V 0 14 (chS q V x n c j).1) n) 0 14, (chS q V x n c j).2 + (if nI (bcnt (fun t => (qRun q 1 (vset V 0 14 (chS q V x n c j).1) n) 8 t == 2) q.2.1) < c then 0 else 1))
theorem cT.put14 {M : zM} {p : Nat} {q : PPt} {V : AV} {x : Int32} (h : cT M p q V) : cT (zI M 65 14 x) p q (vset V 0 14 x) :=
  ⟨h.1, h.2.1.mono (fun a i z1 z2 => zI_of (by have := isPl_lt h.2.1.1.1; omega)), h.2.2.put (c := 0) (k := 14) rfl⟩
theorem mT.put14 {M : zM} {q : PPt} {V : AV} {x : Int32} (h : mT M q V) : mT (zI M 119 1 x) q (vset V 0 14 x) :=
  ⟨h.1.mono (fun a i z1 z2 => zI_of (by omega)), h.2.1.put (c := 0) (k := 14) rfl (by omega) (by omega), fun m hm => by rw [zI_of (by omega)]; exact h.2.2 m hm⟩
theorem k_chance {M : zM} (h : Rel M) (x y z : Int32) : ∃ r M1 M2, gX9_chance x y z M = some (r, M1) ∧ gX10_chance x y z M1 = some (r, M2) ∧ Rel M2 := by
  have h' := h
  obtain ⟨q, V, I, D, S, B, F, hA, hC, hM⟩ := h
  have hq := hA.1
  have hI := hA.2.1
  unfold gX9_chance
  by_cases h1 : x < 0
  · rw [if_pos h1]; refine ⟨-1, M, zI M 98 0 0, rfl, ?_, h'.z⟩; unfold gX10_chance; rw [zlet_eq, if_pos h1]
  rw [if_neg h1]
  by_cases h2 : y < 1
  · rw [if_pos h2]; refine ⟨-1, M, zI M 98 0 0, rfl, ?_, h'.z⟩; unfold gX10_chance; rw [zlet_eq, if_neg h1, if_pos h2]
  rw [if_neg h2]
  by_cases h3 : 99 < y
  · rw [if_pos h3]; refine ⟨-1, M, zI M 98 0 0, rfl, ?_, h'.z⟩; unfold gX10_chance; rw [zlet_eq, if_neg h1, if_neg h2, if_pos h3]
  rw [if_neg h3]
  by_cases h4 : z < 0
  · rw [if_pos h4]; refine ⟨-1, M, zI M 98 0 0, rfl, ?_, h'.z⟩; unfold gX10_chance; rw [zlet_eq, if_neg h1, if_neg h2, if_neg h3, if_pos h4]
  rw [if_neg h4]
  by_cases h5 : z ≤ 8
  · rw [if_pos h5]
    obtain ⟨n, hn, rfl⟩ := cnt_of (n := 99) (x := y) (lit := 99) (by decide) (by omega) (fun w => h2 (by rw [Int32.lt_iff_toInt_lt] at w ⊢; have : (0 : Int32).toInt = 0 := rfl; have : (1 : Int32).toInt = 1 := rfl; omega)) (Int32.not_lt.mp h3)
    have wW : ∀ num : Int32, wI q (vset V 0 14 num) := fun num => hI.rows (fun c hc => by rw [vset_row (by omega)])
    obtain ⟨s', N', ⟨Mk, rfl, g1, g2⟩, e⟩ := zfix_inv (B := gX9_chance_L36 (nI n) z) (fun j s => ∃ Mk : zM, s = ((chS q V x n z j).1, nI (chS q V x n z j).2, nI j, Mk) ∧ CR Mk q V I D S B F ∧ MR Mk q V I D S B F) 10 (fun j hj s hs => by
        obtain ⟨Mk, rfl, g1, g2⟩ := hs
        obtain ⟨M3, p, b1, hC3, hM3, hT3⟩ := c_begin g1 g2 hq hI
        have hT4 := hT3.put14 (x := (chS q V x n z j).1)
        have fr4 : FrW 65 p M3 (zI M3 65 14 (chS q V x n z j).1) := ⟨fun a i w => zI_of (by omega), rfl, fun _ _ _ => rfl⟩
        have ok := cRn_ok (wy := 1) hT4 hq (wW _)
        have f2 : ∀ rc, zfix zFu (gX9_chance_L66 (nI n) z (nI (chS q V x n z j).2) (nI j) rc) (0, zI M3 65 14 (chS q V x n z j).1) = rc ((chS q V x n z (j + 1)).1, nI (chS q V x n z (j + 1)).2, nI (j + 1), cRn 1 (zI M3 65 14 (chS q V x n z j).1) n) := fun rc => by
          refine zfix_run (fun k => (nI k, cRn 1 (zI M3 65 14 (chS q V x n z j).1) k)) n (by rw [nI_0]; rfl) (by unfold zFu; omega) ?_ ?_
          · intro k hk rc'
            unfold gX9_chance_L66
            dsimp only
            rw [if_neg (nI_ge hk (by omega)), zcV_some (ok k).2.2, nI_1]
          · intro rc'
            unfold gX9_chance_L66
            dsimp only
            rw [if_pos (nI_le (Nat.le_refl _) (by omega)), zcI_some ((ok n).2.1.things 2), show (cRn 1 (zI M3 65 14 (chS q V x n z j).1) n).1 65 14 = _ from (ok n).2.1.2.2.oo (by omega) (by omega), nI_1, nI_1]
            show _ = rc (_, nI ((chS q V x n z j).2 + (if nI (bcnt (fun t => (qRun q 1 (vset V 0 14 (chS q V x n z j).1) n) 8 t == 2) q.2.1) < z then 0 else 1)), _)
            by_cases hc : nI (bcnt (fun t => (qRun q 1 (vset V 0 14 (chS q V x n z j).1) n) 8 t == 2) q.2.1) < z
            · rw [if_pos hc, if_pos hc]; rfl
            · rw [if_neg hc, if_neg hc]; rfl
        have f1 := fr4.tr (ok n).1
        refine ⟨((chS q V x n z (j + 1)).1, nI (chS q V x n z (j + 1)).2, nI (j + 1), _), ⟨_, rfl, hC3.fr65 f1, hM3.fr65 f1⟩, fun rc => ?_⟩
        unfold gX9_chance_L36
        dsimp only
        rw [nI_lit10, if_neg (nI_ge hj (by omega)), zcV_some b1, zlet_eq]
        exact f2 rc) 10 0 zFu (x, 0, 0, M) (by omega) (by unfold zFu; omega) ⟨M, by rw [nI_0]; rfl, hC, hM⟩
    obtain ⟨s2, N2, ⟨Mj, rfl, j1, j2⟩, e2⟩ := zfix_inv (B := gX10_chance_L41 (nI n) z) (fun j s => ∃ Mj : zM, s = ((chS q V x n z j).1, nI (chS q V x n z j).2, nI j, Mj) ∧ CR Mj q V I D S B F ∧ MR Mj q V I D S B F) 10 (fun j hj s hs => by
        obtain ⟨Mj, rfl, j1, j2⟩ := hs
        obtain ⟨M3, b1, hC3, hM3, hT3⟩ := m_begin j1 j2 hq hI
        have hT4 := hT3.put14 (x := (chS q V x n z j).1)
        have hM4 : MR (zI M3 119 1 (chS q V x n z j).1) q V I D S B F := hM3.mono (fun a i d => zI_of (by unfold dM at d; omega))
        have hC4 : CR (zI M3 119 1 (chS q V x n z j).1) q V I D S B F := hC3.hi (fun a i w => zI_of (by omega)) rfl
        have ok := mRn_ok hT4 hq (wy1 hM4.1) (wW _)
        have f2 : ∀ rc, zfix zFu (gX10_chance_L65 (nI n) z (nI (chS q V x n z j).2) (nI j) rc) (0, zI M3 119 1 (chS q V x n z j).1) = rc ((chS q V x n z (j + 1)).1, nI (chS q V x n z (j + 1)).2, nI (j + 1), mRn 1 (zI M3 119 1 (chS q V x n z j).1) n) := fun rc => by
          refine zfix_run (fun k => (nI k, mRn 1 (zI M3 119 1 (chS q V x n z j).1) k)) n (by rw [nI_0]; rfl) (by unfold zFu; omega) ?_ ?_
          · intro k hk rc'
            unfold gX10_chance_L65
            dsimp only
            rw [if_neg (nI_ge hk (by omega)), zcV_some (ok k).2.2, nI_1]
          · intro rc'
            unfold gX10_chance_L65
            dsimp only
            rw [if_pos (nI_le (Nat.le_refl _) (by omega)), zlet_eq, zcI_some (show gX10_thingsOf 1 2 _ = _ from (ok n).2.1.2.1.things (ok n).2.1.1 (by omega) 2), cl1, show (mRn 1 (zI M3 119 1 (chS q V x n z j).1) n).1 119 1 = _ from (ok n).2.1.2.1.oo (k := 14) (by omega) (by omega), nI_1, nI_1]
            show _ = rc (_, nI ((chS q V x n z j).2 + (if nI (bcnt (fun t => (qRun q 1 (vset V 0 14 (chS q V x n z j).1) n) 8 t == 2) q.2.1) < z then 0 else 1)), _)
            by_cases hc : nI (bcnt (fun t => (qRun q 1 (vset V 0 14 (chS q V x n z j).1) n) 8 t == 2) q.2.1) < z
            · rw [if_pos hc, if_pos hc, Int32.add_zero]; rfl
            · rw [if_neg hc, if_neg hc]; rfl
        refine ⟨((chS q V x n z (j + 1)).1, nI (chS q V x n z (j + 1)).2, nI (j + 1), _), ⟨_, rfl, hC4.frM (ok n).1, hM4.fr1 (ok n).1⟩, fun rc => ?_⟩
        unfold gX10_chance_L41
        dsimp only
        rw [nI_lit10, if_neg (nI_ge hj (by omega)), zcV_some b1, zlet_eq]
        exact f2 rc) 10 0 zFu (x, 0, 0, zI Mk 98 0 0) (by omega) (by unfold zFu; omega) ⟨_, by rw [nI_0]; rfl, g1.z, g2.z⟩
    refine ⟨nI (chS q V x n z 10).2, Mk, Mj, ?_, ?_, q, V, I, D, S, B, F, hA, j1, j2⟩
    · rw [e]
      unfold gX9_chance_L36
      dsimp only
      rw [nI_lit10, if_pos (nI_le (Nat.le_refl _) (by omega))]
    · unfold gX10_chance
      rw [zlet_eq, if_neg h1, if_neg h2, if_neg h3, if_neg h4, if_pos h5, e2]
      unfold gX10_chance_L41
      dsimp only
      rw [nI_lit10, if_pos (nI_le (Nat.le_refl _) (by omega))]
  · rw [if_neg h5]; refine ⟨-1, M, zI M 98 0 0, rfl, ?_, h'.z⟩; unfold gX10_chance; rw [zlet_eq, if_neg h1, if_neg h2, if_neg h3, if_neg h4, if_neg h5]
/-! tried -/
theorem vM_try {n T : Nat} {M M' : zM} {f : Nat} (ht : M.1 98 51 ≠ 2) (he : ∀ a i, 118 ≤ a → M'.1 a i = M.1 a i) (h2 : M'.1 98 51 ≠ 2) : vM n T M' f = vM n T M f := by
  funext c k
  unfold vM
  by_cases hd : vdim n T c k = true
  · rw [if_pos hd, if_pos hd]
    unfold vRd
    rw [he _ _ (ma_ge (f := f) hd), if_neg (show ¬ (c = 7 ∧ M'.1 98 51 = 2 ∧ nI k = M'.1 98 52) from fun w => h2 w.2.1), if_neg (show ¬ (c = 7 ∧ M.1 98 51 = 2 ∧ nI k = M.1 98 52) from fun w => ht w.2.1)]
  · rw [if_neg hd, if_neg hd]
theorem vM_try2 {n T : Nat} {M M' : zM} {f m : Nat} (hn : n ≤ 6) (hm : m < n) (ht : M.1 98 51 ≠ 2) (he : ∀ a i, 118 ≤ a → M'.1 a i = M.1 a i) (h2 : M'.1 98 51 = 2) (h3 : M'.1 98 52 = nI m) : vM n T M' f = vset (vM n T M f) 7 m 1 := by
  funext c k
  unfold vM vset
  dsimp only
  by_cases hd : vdim n T c k = true
  · rw [if_pos hd, if_pos hd]
    unfold vRd
    rw [he _ _ (ma_ge (f := f) hd), h2, h3]
    by_cases hc : c = 7 ∧ k = m
    · obtain ⟨rfl, rfl⟩ := hc
      rw [if_neg (by omega), if_pos ⟨rfl, rfl, rfl⟩, if_pos ⟨rfl, rfl⟩]
    · rw [if_neg hc]
      by_cases h5 : c = 5
      · rw [if_pos h5, if_pos h5]
      · rw [if_neg h5, if_neg h5, if_neg (show ¬ (c = 7 ∧ M.1 98 51 = 2 ∧ nI k = M.1 98 52) from fun w => ht w.2.1), if_neg]
        intro w
        obtain ⟨w1, _, w3⟩ := w
        subst w1
        have hk : k < n := by unfold vdim at hd; simpa using hd
        have := congrArg Int32.toInt w3
        rw [nI_toInt (by omega), nI_toInt (by omega)] at this
        exact hc ⟨rfl, by omega⟩
  · rw [if_neg hd, if_neg hd, if_neg]
    intro w
    rw [w.1, w.2, vdN (by omega) (by omega) hm] at hd
    exact hd rfl
def wyS (x : Int32) : Int32 := if x = 1 then 2 else if x = 2 then 0 else if x = 3 then 4 else if x = 4 then 8 else if x = 5 then 16 else 0
def trV (V : AV) (x y : Int32) : AV := if x = 2 then vset V 7 y.toNatClampNeg 1 else V
theorem wy_try {M : zM} {k : Nat} (hk : k ≤ 5) (h : M.1 98 51 = nI k) : wyOK M (wyS (nI k)) 0 := by
  unfold wyOK
  rw [h]
  rcases (show k = 0 ∨ k = 1 ∨ k = 2 ∨ k = 3 ∨ k = 4 ∨ k = 5 by omega) with rfl | rfl | rfl | rfl | rfl | rfl <;> decide
theorem trV_wI {q : PPt} {V : AV} {x y : Int32} (h : wI q V) : wI q (trV V x y) := by
  unfold trV
  split
  · refine ⟨?_, ?_, ?_, ?_⟩
    · have := h.1
      unfold vInv vRk vIn vRu at this ⊢
      rw [vset_row (c' := 1) (by omega), vset_row (c' := 4) (by omega), vset_row (c' := 5) (by omega), vset_row (c' := 6) (by omega), vset_row (c' := 2) (by omega)]
      exact this
    · intro k hk
      by_cases ek : k = y.toNatClampNeg
      · rw [ek, vset_at]; exact Or.inr rfl
      · rw [vset_ne (by omega)]; exact h.2.1 k hk
    · have := h.2.2.1
      unfold vPm at this ⊢
      rw [vset_row (c' := 1) (by omega)]
      exact this
    · have := h.2.2.2
      unfold vGz at this ⊢
      rw [vset_row (c' := 4) (by omega), vset_row (c' := 5) (by omega)]
      exact this
  · exact h
theorem c_tried {M : zM} {q : PPt} {V : AV} {I : Option AV} {D : Nat × (Nat → AV)} {S : SSt} {B : Nat × (Nat → Int32)} {F : Int32 × Int32} {x y : Int32} {n : Nat} (hC : CR M q V I D S B F) (hM : MR M q V I D S B F) (hq : pI q) (hI : wI q V) (hn : n ≤ 99) (hy : x = 2 → ∃ m, m < q.1 ∧ y = nI m) :
    ∃ M1, gX9_tried_J38 x y (nI n) M = some (nI (bcnt (fun t => (qRun q (wyS x) (trV V x y) n) 8 t == 2) q.2.1) - nI (bcnt (fun t => V 8 t == 2) q.2.1), M1) ∧ CR M1 q V I D S B F ∧ MR M1 q V I D S B F := by
  obtain ⟨M3, p, b1, hC3, hM3, hT3⟩ := c_begin hC hM hq hI
  have run : ∀ M4, FrW 65 p M3 M4 → cT M4 p q (trV V x y) → ∃ M1, gX9_tried_J64 x (nI n) M4 = some (nI (bcnt (fun t => (qRun q (wyS x) (trV V x y) n) 8 t == 2) q.2.1) - nI (bcnt (fun t => V 8 t == 2) q.2.1), M1) ∧ CR M1 q V I D S B F ∧ MR M1 q V I D S B F := fun M4 f4 hT4 => by
    have ok := cRn_ok (wy := wyS x) hT4 hq (trV_wI hI)
    have hC5 := hC3.fr65 (f4.tr (ok n).1)
    refine ⟨cRn (wyS x) M4 n, ?_, hC5, hM3.fr65 (f4.tr (ok n).1)⟩
    unfold gX9_tried_J64
    rw [zcI_some (show gX9_wayTried x M4 = some (wyS x) by unfold gX9_wayTried wyS; repeat' split
                                                           all_goals rfl)]
    refine zfix_run (fun k => (nI k, cRn (wyS x) M4 k)) n (by rw [nI_0]; rfl) (by unfold zFu; omega) ?_ ?_
    · intro k hk rc'
      unfold gX9_tried_L73
      dsimp only
      rw [if_neg (nI_ge hk (by omega)), zcV_some (ok k).2.2, nI_1]
    · intro rc'
      unfold gX9_tried_L73
      dsimp only
      rw [if_pos (nI_le (Nat.le_refl _) (by omega)), zcI_some ((ok n).2.1.things 2), zcI_some (hC5.things 2)]
  unfold gX9_tried_J38
  rw [zcV_some b1]
  by_cases h2 : x = 2
  · obtain ⟨m, hm, rfl⟩ := hy h2
    have hn6 := hq.1.1
    rw [if_pos h2, zg_true (zok_nI (show m < 6 by omega) (by omega)), zlet_eq, nar_b (Or.inr rfl), nI_cl (by omega)]
    refine run _ ⟨fun a i w => zI_of (by omega), rfl, fun _ _ _ => rfl⟩ ⟨hT3.1, hT3.2.1.mono (fun a i z1 z2 => zI_of (by have := isPl_lt hT3.2.1.1.1; omega)), ?_⟩
    unfold trV
    rw [if_pos h2, nI_cl (by omega)]
    exact hT3.2.2.put (c := 7) (vdN (by omega) (by omega) hm)
  · rw [if_neg h2]
    refine run _ FrW.rf ?_
    unfold trV
    rw [if_neg h2]
    exact hT3
theorem m_tried {M : zM} {q : PPt} {V : AV} {I : Option AV} {D : Nat × (Nat → AV)} {S : SSt} {B : Nat × (Nat → Int32)} {F : Int32 × Int32} {y : Int32} {n k : Nat} (hC : CR M q V I D S B F) (hM : MR M q V I D S B F) (hq : pI q) (hI : wI q V) (hn : n ≤ 99) (hk : k ≤ 5) (hy : nI k = 2 → ∃ m, m < q.1 ∧ y = nI m) :
    ∃ M1, gX10_tried_J36 (nI k) y (nI n) 1 M = some (nI (bcnt (fun t => (qRun q (wyS (nI k)) (trV V (nI k) y) n) 8 t == 2) q.2.1) - nI (bcnt (fun t => V 8 t == 2) q.2.1), M1) ∧ CR M1 q V I D S B F ∧ MR M1 q V I D S B F := by
  obtain ⟨M2, e1, e2, e3, e4, e5, e6⟩ := r_copies (M := zI (zI M 98 51 (nI k)) 98 52 y) (a := 1) (b := 0) (by omega) (by omega) (by omega)
  have a51 : M2.1 98 51 = nI k := by rw [e3 98 51 (CF_lo (by omega)), zI_of (by omega), zI_at]
  have a52 : M2.1 98 52 = y := by rw [e3 98 52 (CF_lo (by omega)), zI_at]
  have hne := hM.1.ne
  have ew : ∀ a i, 118 ≤ a → (zI (zI M 98 51 (nI k)) 98 52 y).1 a i = M.1 a i := fun a i z => by rw [zI_of (by omega), zI_of (by omega)]
  have hv : mV M2 q 1 (trV V (nI k) y) := by
    unfold mV trV
    rw [vM_copied hq.1.1 hq.1.2.1 e3 e4 e5 e6]
    by_cases h2 : nI k = 2
    · obtain ⟨m, hm, rfl⟩ := hy h2
      rw [if_pos h2, vM_try2 hq.1.1 hm hne ew (by rw [zI_of (by omega), zI_at]; exact h2) zI_at, show vM q.1 q.2.1 M 0 = V from hM.2.2.1, nI_cl (by have := hq.1.1; omega)]
    · rw [if_neg h2, vM_try hne ew (by rw [zI_of (by omega), zI_at]; exact h2)]
      exact hM.2.2.1
  have hP : mPl M2 q := hM.2.1.mono (fun a i z1 z2 => by rw [e3 a i (CF_lo (by omega)), zI_of (by omega), zI_of (by omega)])
  have hh : vHd M2 1 q.1 := fun m hm => by
    have hn6 := hq.1.1
    rw [e5 128 m (by omega) (by omega) (by omega), ew _ _ (by omega)]
    exact hM.2.2.1.hd hne hI.2.1 m hm
  obtain ⟨M3, f1, f2, f3⟩ := m_goesOn (wy := wyS (nI k)) ⟨hP, hv, hh⟩ hq (wy_try hk a51) (trV_wI hI) hn
  have fr : ∀ a i, dM a i ∨ a < 98 → (zI (zI M3 98 51 0) 98 52 (-1)).1 a i = M.1 a i := fun a i d => by
    by_cases w2 : a = 98 ∧ i = 52
    · obtain ⟨rfl, rfl⟩ := w2; rw [zI_at, hM.1.2]
    · rw [zI_of w2]
      by_cases w1 : a = 98 ∧ i = 51
      · obtain ⟨rfl, rfl⟩ := w1; rw [zI_at, hM.1.1]
      · rw [zI_of w1, f2.1 a i (by unfold dM at d; unfold MF; omega), e3 a i (by unfold dM at d; unfold CF; omega), zI_of w2, zI_of w1]
  have hM5 : MR (zI (zI M3 98 51 0) 98 52 (-1)) q V I D S B F := hM.mono (fun a i d => fr a i (Or.inl d))
  have hC5 : CR (zI (zI M3 98 51 0) 98 52 (-1)) q V I D S B F := hC.hi (fun a i z => fr a i (Or.inr z)) (by show M3.2.2 = _; rw [f2.2.1, e2]; rfl)
  have ht1 : gX10_thingsOf 1 2 (zI (zI M3 98 51 0) 98 52 (-1)) = some (nI (bcnt (fun t => (qRun q (wyS (nI k)) (trV V (nI k) y) n) 8 t == 2) q.2.1)) := by
    rw [show gX10_thingsOf 1 2 (zI (zI M3 98 51 0) 98 52 (-1)) = gX10_thingsOf (nI 1) 2 (zI (zI M3 98 51 0) 98 52 (-1)) from rfl, r_things hM5.2.1.1 (by omega)]
    have hb : bcnt (fun t => vM q.1 q.2.1 (zI (zI M3 98 51 0) 98 52 (-1)) 1 8 t == 2) q.2.1 = bcnt (fun t => (qRun q (wyS (nI k)) (trV V (nI k) y) n) 8 t == 2) q.2.1 := by
      apply bcnt_congr
      intro t ht
      rw [vM_t (by omega) (by omega) ht, zI_of (by omega), zI_of (by omega), show M3.1 (122 + 8) (8 * 1 + t) = _ from f3.2.1.tt (c := 8) (by omega) (by omega) ht]
    rw [hb]
  refine ⟨_, ?_, hC5, hM5⟩
  unfold gX10_tried_J36 gX10_runs
  rw [if_neg (show ¬ (1 : Int32) = 0 by decide), if_neg (nI_pos (by omega)), lit99, if_pos (nI_le hn (by omega)), zlet_eq, zlet_eq, zcV_some (show gX10_copies 1 0 _ = some M2 from e1), zcV_some f1, zcV_some rfl, zlet_eq, zlet_eq, zcI_some ht1, zcI_some (show gX10_thingsOf 0 2 _ = _ from hM5.2.2.1.things hM5.2.1 (by omega) 2)]
theorem k_tried {M : zM} (h : Rel M) (x y z : Int32) : ∃ r M1 M2, gX9_tried x y z M = some (r, M1) ∧ gX10_tried x y z M1 = some (r, M2) ∧ Rel M2 := by
  have h' := h
  obtain ⟨q, V, I, D, S, B, F, hA, hC, hM⟩ := h
  have hq := hA.1
  have hI := hA.2.1
  have hz0 := hM.z (y := 0)
  have out : ∀ (_ : gX10_tried x y z M = some (-1, zI M 98 0 0)), ∃ r M1 M2, some ((-1 : Int32), M) = some (r, M1) ∧ gX10_tried x y z M1 = some (r, M2) ∧ Rel M2 := fun e => ⟨-1, M, _, rfl, e, h'.z⟩
  have J35 : ∀ N, gX10_tried_J35 x y z N = some (-1, N) := fun N => by
    unfold gX10_tried_J35 gX10_tried_J36
    rw [if_pos rfl]
  have J36 : (z < 0 ∨ 99 < z) → ∀ v N, gX10_tried_J36 x y z v N = some (-1, N) := fun hz v N => by
    unfold gX10_tried_J36
    by_cases v0 : v = 0
    · rw [if_pos v0]
    · rw [if_neg v0]
      by_cases z0 : z < 0
      · rw [if_pos z0]
      · rw [if_neg z0, if_neg (by rcases hz with w | w; exact absurd w z0; exact Int32.not_le.mpr w)]
  have outR : (z < 0 ∨ 99 < z) → gX10_tried x y z M = some (-1, zI M 98 0 0) := fun hz => by
    unfold gX10_tried
    rw [zlet_eq, zcI_some (hz0.2.1.man y)]
    rw [J36 hz, J36 hz, J35]
    repeat' split
    all_goals rfl
  unfold gX9_tried
  by_cases h1 : x < 0
  · rw [if_pos h1]
    apply out
    unfold gX10_tried
    rw [zlet_eq, if_neg (fun w => by rw [w] at h1; exact absurd h1 (by decide)), if_pos h1, J35]
  · rw [if_neg h1]
    by_cases h2 : 5 < x
    · rw [if_pos h2]
      apply out
      unfold gX10_tried
      rw [zlet_eq, if_neg (fun w => by rw [w] at h2; exact absurd h2 (by decide)), if_neg h1, if_pos h2, J35]
    · rw [if_neg h2]
      unfold gX9_isCount
      by_cases h3 : z < 0
      · rw [if_pos h3, zcI_some rfl, if_pos rfl]; exact out (outR (Or.inl h3))
      · rw [if_neg h3]
        by_cases h4 : 99 < z
        · rw [if_pos h4, zcI_some rfl, if_pos rfl]; exact out (outR (Or.inr h4))
        · rw [if_neg h4, zcI_some rfl, if_neg (show ¬ (1 : Int32) = 0 by decide)]
          obtain ⟨n, hn, rfl⟩ := cnt_of (n := 99) (x := z) (by decide) (by omega) h3 (Int32.not_lt.mp h4)
          obtain ⟨k, hk, rfl⟩ := cnt_of (n := 5) (x := x) (lit := 5) (by decide) (by omega) h1 (Int32.not_lt.mp h2)
          have fin : (nI k = 2 → ∃ m, m < q.1 ∧ y = nI m) → (∀ N, MR N q V I D S B F → gX10_tried (nI k) y (nI n) N = gX10_tried_J36 (nI k) y (nI n) 1 (zI N 98 0 0)) → ∃ r M1 M2, gX9_tried_J38 (nI k) y (nI n) M = some (r, M1) ∧ gX10_tried (nI k) y (nI n) M1 = some (r, M2) ∧ Rel M2 := fun hy hr => by
            obtain ⟨M1, a1, a2, a3⟩ := c_tried (x := nI k) (y := y) hC hM hq hI hn hy
            obtain ⟨M2, b1, b2, b3⟩ := m_tried (y := y) a2.z (a3.z (y := 0)) hq hI hn hk hy
            exact ⟨_, M1, M2, a1, by rw [hr M1 a3]; exact b1, q, V, I, D, S, B, F, hA, b2, b3⟩
          by_cases hx : nI k = 2
          · rw [if_pos hx, zcI_some (hC.man y)]
            rcases isM_cases (n := q.1) (by have := hq.1.1; omega) y with e | ⟨e, m, hm, rfl⟩
            · rw [e, if_pos rfl]
              apply out
              unfold gX10_tried
              rw [zlet_eq, if_pos hx, zcI_some (hz0.2.1.man y), e]
              unfold gX10_tried_J36
              rw [if_pos rfl]
            · rw [e, if_neg (show ¬ (1 : Int32) = 0 by decide)]
              refine fin (fun _ => ⟨m, hm, rfl⟩) (fun N hN => ?_)
              unfold gX10_tried
              rw [zlet_eq, if_pos hx, zcI_some (hN.z.2.1.man _), e]
          · rw [if_neg hx]
            by_cases y0 : y = 0
            · rw [if_pos y0]
              refine fin (fun w => absurd w hx) (fun N hN => ?_)
              unfold gX10_tried
              rw [zlet_eq, if_neg hx, if_neg h1, if_neg h2, if_pos y0]
            · rw [if_neg y0]
              apply out
              unfold gX10_tried
              rw [zlet_eq, if_neg hx, if_neg h1, if_neg h2, if_neg y0, J35]
