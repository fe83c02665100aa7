def ordR (x : Nat) (c : Nat) (st : Nat × List Nat) : Int32 := if x = 4 then nI st.1 - 1 else if c ≤ x then -2 else arrO st.2 x
theorem c_J112 {M : zM} {x c : Nat} {st : Nat × List Nat} (hx : x ≤ 4) (hc : c ≤ 4) (h3 : ∀ i, i < c → M.1 3 i = arrO st.2 i) : gX9_order_J112 (nI x) (nI c) (nI st.1 - 1) M = some (ordR x c st, M) := by
  unfold gX9_order_J112 ordR
  by_cases x4 : x = 4
  · rw [if_pos x4, x4, if_pos (by decide)]
  · rw [if_neg x4, litF, if_neg (by
      intro w
      have := congrArg Int32.toInt w
      rw [nI_toInt (by omega), nI_toInt (by omega)] at this
      omega)]
    by_cases hcx : c ≤ x
    · rw [if_pos hcx, if_pos (nI_le hcx (by omega))]
    · rw [if_neg hcx, if_neg (nI_ge (by omega) (by omega)), zg_true (zok_nI (show x < 4 by omega) (by omega)), nI_cl (by omega), h3 x (by omega)]
theorem rset_of_row {M : zM} {a : Nat} {A : Nat → Int32} (h : M.1 a = A) : rset M a A = M := by rw [← h]; exact rset_self
set_option maxHeartbeats 1000000 in
theorem c_order {M : zM} {q : PPt} {V : AV} {I : Option AV} {D : Nat × (Nat → AV)} {S : SSt} {B : Nat × (Nat → Int32)} {F : Int32 × Int32} {c x : Nat} (hC : CR M q V I D S B F) (hM : MR M q V I D S B F) (hq : pI q) (hI : wI q V) (hc : c ≤ q.1) (hc4 : c ≤ 4) (hx : x ≤ 4) :
    ∃ M', zfix zFu (gX9_order_L25 (nI x) (nI c)) (0, M) = some (ordR x c (fS q V c (maskO (rkL V c)) (perms c (maskO (rkL V c))).length), M') ∧ CR M' q V I D S B F ∧ MR M' q V I D S B F := by
  have hn := hq.1.1
  obtain ⟨so1, so2, so3⟩ := so_at hc4 (rkL_arr hI hn c hc)
  have hst := st_at so3 (by rw [so2]; exact hc4)
  rw [so2] at hst
  obtain ⟨rw1, rw2, rw3⟩ := rw_at so3 (by rw [so2]; exact hc4)
  rw [so2] at rw1 rw2 rw3
  have hE : ∃ E, E = perms c (maskO (rkL V c)) := ⟨_, rfl⟩
  obtain ⟨E, eE⟩ := hE
  have hfS : ∀ j, fS q V c (maskO (rkL V c)) (j + 1) = updO q V c (fS q V c (maskO (rkL V c)) j) (E.getD j []) := fun j => by rw [fS_s, ← eE]
  rw [← eE] at so1 hst rw1 rw2 rw3 ⊢
  have hstep := stepOK_at E hst
  have hrow : ∀ j, j < E.length → rowOK V c (arrO (E.getD j [])) := fun j hj => by
    have hm : E.getD j [] ∈ E := by
      rw [List.getD_eq_getElem?_getD, List.getElem?_eq_getElem hj]
      exact List.getElem_mem hj
    exact (rowOK_of hI hn hc (rw3 _ hm)).1
  -- sorting
  obtain ⟨s', N', ⟨Mk, rfl, g1, g2, g3⟩, e⟩ := zfix_inv (B := gX9_order_L25 (nI x) (nI c)) (fun k s => ∃ Mk : zM, s = (nI k, Mk) ∧ Mk.2 = M.2 ∧ (∀ a, a ≠ 2 → Mk.1 a = M.1 a) ∧ ∀ i, i < k → Mk.1 2 i = sortA (rkL V k) i) c (fun k hk s hs => by
      obtain ⟨Mk, rfl, g1, g2, g3⟩ := hs
      obtain ⟨m, hm, em⟩ := hI.1.1 k (by omega)
      have e56 : Mk.1 56 k = nI m := by rw [g2 56 (by omega), ← em]; exact hC.row.mm (c := 1) (by omega) (by omega) (by omega)
      refine ⟨(nI (k + 1), rset Mk 2 (insF (Mk.1 2) (nI m) k)), ⟨_, rfl, g1, fun a z => by rw [rset_of z, g2 a z], fun i hi => ?_⟩, fun rc => ?_⟩
      · rw [rset_at]
        show _ = insF (sortA (rkL V k)) (nI (V 1 k).toNatClampNeg) (rkL V k).length i
        rw [rkL_len, em, nI_cl (by omega)]
        exact insF_congr k _ _ g3 i hi
      · unfold gX9_order_L25
        dsimp only
        rw [if_neg (nI_ge hk (by omega)), zg_true (zok_nI (show k < 6 by omega) (by omega)), nI_cl (by omega), e56, zcV_some (s_put (by omega) (by omega)), nI_1]) c 0 zFu (0, M) (by omega) (by unfold zFu; omega) ⟨M, by rw [nI_0], rfl, fun _ _ => rfl, fun _ h => absurd h (by omega)⟩
  have hCk : CR Mk q V I D S B F := hC.mono (fun a i d _ => by rw [g2 a (by unfold dC at d; omega)]) (fun a _ _ => by rw [g1])
  have hMk : MR Mk q V I D S B F := hM.mono (fun a i d => by rw [g2 a (by unfold dM at d; omega)])
  obtain ⟨r1, e1, hr1⟩ := zfix_seek (B := gX9_order_L58 (nI x) (nI c)) (s0 := (-1, 0, Mk)) (fun j s => j < E.length ∧ ∃ Mj : zM, s = (nI (fS q V c (maskO (rkL V c)) j).1 - 1, nI j, Mj) ∧ CR Mj q V I D S B F ∧ MR Mj q V I D S B F ∧ (∀ i, i < c → Mj.1 2 i = arrO (E.getD j []) i) ∧ ((fS q V c (maskO (rkL V c)) j).1 ≠ 0 → ∀ i, i < c → Mj.1 3 i = arrO (fS q V c (maskO (rkL V c)) j).2 i)) (fun j => decide (j + 1 = E.length)) (fun j r => ∃ M', r = some (ordR x c (fS q V c (maskO (rkL V c)) (j + 1)), M') ∧ CR M' q V I D S B F ∧ MR M' q V I D S B F) (fun _ => True) (E.length) ⟨rw2, Mk, by rw [nI_0]; show (-1, 0, Mk) = (nI 0 - 1, 0, Mk); rw [show nI 0 - 1 = -1 by decide], hCk, hMk, fun i hi => by rw [g3 i hi]; exact so1 i hi, fun w => absurd rfl w⟩ (by unfold zFu; omega) (fun j hj hp s hs => by
      obtain ⟨_, Mj, rfl, j1, j2, j3, j4⟩ := hs
      have hp' : ¬ j + 1 = E.length := by simpa using hp
      have hb := fS_le (q := q) (V := V) (c := c) (mask := maskO (rkL V c)) hq j
      obtain ⟨st1, st2⟩ := hstep j hj
      rw [decide_eq_true (show j + 1 < E.length by omega)] at st1
      obtain ⟨Mw, w1, w2, w3, w4, w5⟩ := c_worth j1 j2 hq hI hc hc4 (show rowOK V c (Mj.1 2) from ⟨fun i hi => by rw [j3 i hi]; exact (hrow j hj).1 i hi, fun i l hi hl w => (hrow j hj).2 i l hi hl (by rw [← j3 i hi, ← j3 l hl]; exact w)⟩)
      rw [itsA_congr j3] at w1
      have hit := itsA_le (V := V) (c := c) (A := arrO (E.getD j [])) hq
      have hcg : ∀ i, i < c → Mw.1 2 i = arrO (E.getD j []) i := fun i hi => by rw [w4]; exact j3 i hi
      have turn : ∀ N : zM, N.1 2 = Mw.1 2 → gX9_turnRow (nI c) N = some (1, rset N 2 (nxF c (Mw.1 2)).2) := fun N hN => by
        have := c_turn (M := N) (A := Mw.1 2) hc4
        rw [rset_of_row hN, (nxF_congr hcg).1, st1] at this
        exact this
      by_cases hu : (fS q V c (maskO (rkL V c)) j).1 ≤ itsA q V c (arrO (E.getD j []))
      · have ef : fS q V c (maskO (rkL V c)) (j + 1) = (itsA q V c (arrO (E.getD j [])) + 1, E.getD j []) := by rw [hfS]; exact if_pos hu
        refine ⟨(nI (fS q V c (maskO (rkL V c)) (j + 1)).1 - 1, nI (j + 1), rset (zcp Mw 2 3 0 0 c) 2 (nxF c (Mw.1 2)).2), ⟨by omega, _, rfl, ?_, ?_, fun i hi => ?_, fun _ i hi => ?_⟩, fun rc => ?_⟩
        · exact w2.mono (fun a i d _ => by rw [rset_of (by unfold dC at d; omega), zcp_row_ne (by unfold dC at d; omega)]) (fun _ _ _ => rfl)
        · exact w3.mono (fun a i d => by rw [rset_of (by unfold dM at d; omega), zcp_row_ne (by unfold dM at d; omega)])
        · rw [rset_at, (nxF_congr hcg).2 i hi]; exact st2 (by omega) i hi
        · rw [rset_of (by omega), zcp_at hi, ef]; exact hcg i hi
        · unfold gX9_order_L58
          dsimp only
          rw [show (24 : Int32) = nI 24 from lit24, if_neg (nI_ge (by omega) (by omega)), zcIM_some w1, if_neg (Int32.not_le.mpr ((top_lt (by omega) (by omega)).mpr hu)), zg_true (show zcpk 0 0 (nI c) 4 4 = true by
            rcases (show c = 0 ∨ c = 1 ∨ c = 2 ∨ c = 3 ∨ c = 4 by omega) with rfl | rfl | rfl | rfl | rfl <;> decide), zlet_eq, cl0, nI_cl (by omega)]
          unfold gX9_order_J95
          rw [zcIM_some (turn (zcp Mw 2 3 0 0 c) (zcp_row_ne (by omega))), if_neg (show ¬ (1 : Int32) = 0 by decide), nI_1, ef, nI_dec]
      · have ef : fS q V c (maskO (rkL V c)) (j + 1) = fS q V c (maskO (rkL V c)) j := by rw [hfS]; exact if_neg hu
        refine ⟨(nI (fS q V c (maskO (rkL V c)) (j + 1)).1 - 1, nI (j + 1), rset Mw 2 (nxF c (Mw.1 2)).2), ⟨by omega, _, rfl, ?_, ?_, fun i hi => ?_, fun hne i hi => ?_⟩, fun rc => ?_⟩
        · exact w2.mono (fun a i d _ => by rw [rset_of (by unfold dC at d; omega)]) (fun _ _ _ => rfl)
        · exact w3.mono (fun a i d => by rw [rset_of (by unfold dM at d; omega)])
        · rw [rset_at, (nxF_congr hcg).2 i hi]; exact st2 (by omega) i hi
        · rw [ef] at hne ⊢
          rw [rset_of (by omega), w5]; exact j4 hne i hi
        · unfold gX9_order_L58
          dsimp only
          rw [show (24 : Int32) = nI 24 from lit24, if_neg (nI_ge (by omega) (by omega)), zcIM_some w1, if_pos (Int32.not_lt.mp (fun w => hu ((top_lt (by omega) (by omega)).mp w)))]
          unfold gX9_order_J95
          rw [zcIM_some (turn Mw rfl), if_neg (show ¬ (1 : Int32) = 0 by decide), nI_1, ef]) (fun j hj hp s hs => by
      obtain ⟨_, Mj, rfl, j1, j2, j3, j4⟩ := hs
      have hp' : j + 1 = E.length := by simpa using hp
      have hb := fS_le (q := q) (V := V) (c := c) (mask := maskO (rkL V c)) hq j
      obtain ⟨st1, st2⟩ := hstep j hj
      rw [decide_eq_false (show ¬ j + 1 < E.length by omega)] at st1
      obtain ⟨Mw, w1, w2, w3, w4, w5⟩ := c_worth j1 j2 hq hI hc hc4 (show rowOK V c (Mj.1 2) from ⟨fun i hi => by rw [j3 i hi]; exact (hrow j hj).1 i hi, fun i l hi hl w => (hrow j hj).2 i l hi hl (by rw [← j3 i hi, ← j3 l hl]; exact w)⟩)
      rw [itsA_congr j3] at w1
      have hit := itsA_le (V := V) (c := c) (A := arrO (E.getD j [])) hq
      have hcg : ∀ i, i < c → Mw.1 2 i = arrO (E.getD j []) i := fun i hi => by rw [w4]; exact j3 i hi
      have turn : ∀ N : zM, N.1 2 = Mw.1 2 → gX9_turnRow (nI c) N = some (0, rset N 2 (nxF c (Mw.1 2)).2) := fun N hN => by
        have := c_turn (M := N) (A := Mw.1 2) hc4
        rw [rset_of_row hN, (nxF_congr hcg).1, st1] at this
        exact this
      by_cases hu : (fS q V c (maskO (rkL V c)) j).1 ≤ itsA q V c (arrO (E.getD j []))
      · have ef : fS q V c (maskO (rkL V c)) (j + 1) = (itsA q V c (arrO (E.getD j [])) + 1, E.getD j []) := by rw [hfS]; exact if_pos hu
        refine ⟨_, ⟨rset (zcp Mw 2 3 0 0 c) 2 (nxF c (Mw.1 2)).2, rfl, ?_, ?_⟩, fun rc => ?_⟩
        · exact w2.mono (fun a i d _ => by rw [rset_of (by unfold dC at d; omega), zcp_row_ne (by unfold dC at d; omega)]) (fun _ _ _ => rfl)
        · exact w3.mono (fun a i d => by rw [rset_of (by unfold dM at d; omega), zcp_row_ne (by unfold dM at d; omega)])
        · unfold gX9_order_L58
          dsimp only
          rw [show (24 : Int32) = nI 24 from lit24, if_neg (nI_ge (by omega) (by omega)), zcIM_some w1, if_neg (Int32.not_le.mpr ((top_lt (by omega) (by omega)).mpr hu)), zg_true (show zcpk 0 0 (nI c) 4 4 = true by
            rcases (show c = 0 ∨ c = 1 ∨ c = 2 ∨ c = 3 ∨ c = 4 by omega) with rfl | rfl | rfl | rfl | rfl <;> decide), zlet_eq, cl0, nI_cl (by omega)]
          unfold gX9_order_J95
          rw [zcIM_some (turn (zcp Mw 2 3 0 0 c) (zcp_row_ne (by omega))), if_pos rfl]
          have := c_J112 (M := rset (zcp Mw 2 3 0 0 c) 2 (nxF c (Mw.1 2)).2) (st := fS q V c (maskO (rkL V c)) (j + 1)) hx hc4 (fun i hi => by rw [rset_of (by omega), zcp_at hi, ef]; exact hcg i hi)
          rw [← this, ef, nI_dec]
      · have ef : fS q V c (maskO (rkL V c)) (j + 1) = fS q V c (maskO (rkL V c)) j := by rw [hfS]; exact if_neg hu
        refine ⟨_, ⟨rset Mw 2 (nxF c (Mw.1 2)).2, rfl, ?_, ?_⟩, fun rc => ?_⟩
        · exact w2.mono (fun a i d _ => by rw [rset_of (by unfold dC at d; omega)]) (fun _ _ _ => rfl)
        · exact w3.mono (fun a i d => by rw [rset_of (by unfold dM at d; omega)])
        · unfold gX9_order_L58
          dsimp only
          rw [show (24 : Int32) = nI 24 from lit24, if_neg (nI_ge (by omega) (by omega)), zcIM_some w1, if_pos (Int32.not_lt.mp (fun w => hu ((top_lt (by omega) (by omega)).mp w)))]
          unfold gX9_order_J95
          rw [zcIM_some (turn Mw rfl), if_pos rfl, ef]
          exact c_J112 hx hc4 (fun i hi => by rw [rset_of (by omega), w5]; exact j4 (by omega) i hi)) (fun s hs => absurd hs.1 (by omega))
  have hff : ffst (fun j => decide (j + 1 = E.length)) E.length = some (E.length - 1) := by
    refine ffst_uniq (by omega) (by simp; omega) (fun k hk w => ?_)
    have : k + 1 = E.length := by simpa using w
    omega
  rw [hff] at hr1
  obtain ⟨M', q1, q2, q3⟩ := hr1
  refine ⟨M', ?_, q2, q3⟩
  rw [e]
  unfold gX9_order_L25
  dsimp only
  rw [if_pos (nI_le (Nat.le_refl _) (by omega)), e1, q1, show E.length - 1 + 1 = E.length by omega]
/-! the reference's order -/
def stM (M : zM) (c : Nat) (st : Nat × List Nat) : Prop := M.1 98 60 = nI st.1 - 1 ∧ (st.1 ≠ 0 → ∀ i, i < c → M.1 136 i = arrO st.2 i) ∧ st.1 ≤ 1000
theorem arrO_app {pr : List Nat} {l : List Nat} {i : Nat} (h : i < pr.length) : arrO (pr ++ l) i = arrO pr i := by
  unfold arrO
  rw [List.getD_eq_getElem?_getD, List.getD_eq_getElem?_getD, List.getElem?_append_left h]
theorem arrO_last {pr : List Nat} {s : Nat} : arrO (pr ++ [s]) pr.length = nI s := by
  unfold arrO
  rw [List.getD_eq_getElem?_getD, List.getElem?_append_right (Nat.le_refl _), Nat.sub_self]
  rfl
set_option maxHeartbeats 1000000 in
theorem m_leaf {M : zM} {q : PPt} {V : AV} {I : Option AV} {D : Nat × (Nat → AV)} {S : SSt} {B : Nat × (Nat → Int32)} {F : Int32 × Int32} {c f : Nat} {L : List Nat} {st : Nat × List Nat} (hC : CR M q V I D S B F) (hM : MR M q V I D S B F) (hq : pI q) (hI : wI q V) (hc : c ≤ q.1) (hc4 : c ≤ 4) (hL : L.length = c) (hr : rowOK V c (arrO L)) (h135 : ∀ i, i < c → M.1 135 i = arrO L i) (hs : stM M c st) :
    ∃ M', bX10_rows (gGO f) (nI c) 0 M = some M' ∧ CR M' q V I D S B F ∧ MR M' q V I D S B F ∧ M'.1 135 = M.1 135 ∧ stM M' c (updO q V c st L) := by
  have hn := hq.1.1
  unfold bX10_rows
  rw [if_pos rfl]
  obtain ⟨M2, e1, e2, e3, e4, e5, e6⟩ := r_copies (M := M) (a := 1) (b := 0) (by omega) (by omega) (by omega)
  obtain ⟨M3, d1, hC3, hM3, hT3⟩ := m_begin hC hM hq hI
  have eM : M3 = M2 := by rw [show gX10_copies 1 0 M = some M2 from e1] at d1; exact (Option.some.inj d1).symm
  subst eM
  rw [zcV_some d1]
  have fr0 : ∀ x i, ¬ CF 1 x i → M3.1 x i = M.1 x i := e3
  obtain ⟨s', N', ⟨Mk, rfl, g1, g2, g3⟩, e⟩ := zfix_inv (B := gX10_rows_L63 (gGO f) (nI c)) (fun k s => ∃ Mk : zM, s = (nI k, Mk) ∧ Mk.2 = M.2 ∧ (∀ x i, ¬ CF 1 x i → Mk.1 x i = M.1 x i) ∧ mT Mk q (rkP V (arrO L) k)) c (fun k hk s hs' => by
      obtain ⟨Mk, rfl, g1, g2, g3⟩ := hs'
      have e135 : Mk.1 135 k = arrO L k := by rw [g2 135 k (CF_hi (by omega))]; exact h135 k hk
      have hp : mV (zI Mk 129 (6 + k) (arrO L k)) q 1 (rkP V (arrO L) (k + 1)) := by
        rw [← rkP_s]
        exact g3.2.1.put (c := 1) (k := k) (vdN (by omega) (by omega) (by omega)) (by omega) (by omega)
      refine ⟨(nI (k + 1), zI Mk 129 (6 + k) (arrO L k)), ⟨_, rfl, g1, fun x i z => ?_, g3.1.mono (fun a i z1 z2 => zI_of (by omega)), hp, fun m hm => by rw [zI_of (by omega)]; exact g3.2.2 m hm⟩, fun rc => ?_⟩
      · rw [zI_of (fun w => z (by rw [w.1, w.2]; unfold CF; omega)), g2 x i z]
      · unfold gX10_rows_L63
        dsimp only
        rw [if_neg (nI_ge hk (by omega)), zg_true (zok_nI (show k < 4 by omega) (by omega)), nI_lit6, nI_add, zg_true (zok_nI (show 6 + k < 138 by omega) (by omega)), zlet_eq, nI_cl (by omega), nI_cl (by omega), e135, nI_1]) c 0 zFu (0, M3) (by omega) (by unfold zFu; omega) ⟨M3, by rw [nI_0], e2, fr0, by rw [rkP_0]; exact hT3⟩
  have hMk : MR Mk q V I D S B F := hM.mono (fun a i d => g2 a i (by unfold dM at d; unfold CF; omega))
  have hCk : CR Mk q V I D S B F := hC.hi (fun a i z => g2 a i (CF_lo (by omega))) (by rw [g1])
  obtain ⟨M6, f1, f2, f3⟩ := m_goesOn (n := 30) (wy := 0) g3 hq (wy0 hMk.1) (rkP_wI hI hc hr) (by omega)
  have hM6 := hMk.fr1 f2
  have hC6 := hCk.frM f2
  have sv1 : gX10_savedWorth 1 M6 = some (sSaved q.2.2.2.1 (qRun q 0 (rkP V (arrO L) c) 30) q.2.1) := by
    rw [show gX10_savedWorth 1 M6 = gX10_savedWorth (nI 1) M6 from rfl, r_saved f3.1.1 (by omega), f3.1.2.1, show vM q.1 q.2.1 M6 1 = _ from f3.2.1]
  have sv0 : gX10_savedWorth 0 M6 = some (sSaved q.2.2.2.1 V q.2.1) := by
    rw [show gX10_savedWorth 0 M6 = gX10_savedWorth (nI 0) M6 from rfl, r_saved hM6.2.1.1 (by omega), hM6.2.1.2.1, show vM q.1 q.2.1 M6 0 = _ from hM6.2.2.1]
  have c60 : ∀ i, ¬ (i = 34 ∨ i = 53) → M6.1 98 i = M.1 98 i := fun i hi => by rw [f2.1 98 i (by unfold MF; omega), g2 98 i (CF_lo (by omega))]
  have c13 : ∀ a i, 131 < a → M6.1 a i = M.1 a i := fun a i ha => by rw [f2.1 a i (by unfold MF; omega), g2 a i (CF_hi ha)]
  have hit := itsA_le (V := V) (c := c) (A := arrO L) hq
  rw [e]
  unfold gX10_rows_L63
  dsimp only
  rw [if_pos (nI_le (Nat.le_refl _) (by omega)), zcV_some (show gX10_goesOn 30 Mk = some M6 from f1), zcI_some sv1, zcI_some sv0, its_eq hq, c60 60 (by omega), hs.1]
  unfold updO
  by_cases hu : st.1 ≤ itsA q V c (arrO L)
  · rw [if_pos ((top_lt (by have := hs.2.2; omega) (by omega)).mpr hu), if_pos hu, zlet_eq]
    obtain ⟨s2, N2, ⟨Mj, rfl, j1, j2, j3⟩, e7⟩ := zfix_inv (B := gX10_rows_L124 (gGO f) (nI c)) (fun k s => ∃ Mj : zM, s = (nI k, Mj) ∧ Mj.2 = M6.2 ∧ (∀ a i, a ≠ 136 → Mj.1 a i = (zI M6 98 60 (nI (itsA q V c (arrO L)))).1 a i) ∧ ∀ i, i < k → Mj.1 136 i = arrO L i) c (fun k hk s hs' => by
        obtain ⟨Mj, rfl, j1, j2, j3⟩ := hs'
        have e135 : Mj.1 135 k = arrO L k := by rw [j2 135 k (by omega), zI_of (by omega), c13 135 k (by omega)]; exact h135 k hk
        refine ⟨(nI (k + 1), zI Mj 136 k (arrO L k)), ⟨_, rfl, j1, fun a i z => by rw [zI_of (by omega), j2 a i z], fun i hi => ?_⟩, fun rc => ?_⟩
        · by_cases w : i = k
          · rw [w, zI_at]
          · rw [zI_of (by omega), j3 i (by omega)]
        · unfold gX10_rows_L124
          dsimp only
          rw [if_neg (nI_ge hk (by omega)), zg_true (zok_nI (show k < 4 by omega) (by omega)), zg_true (zok_nI (show k < 4 by omega) (by omega)), zlet_eq, nI_cl (by omega), e135, nI_1]) c 0 zFu (0, zI M6 98 60 (nI (itsA q V c (arrO L)))) (by omega) (by unfold zFu; omega) ⟨zI M6 98 60 (nI (itsA q V c (arrO L))), by rw [nI_0], rfl, fun _ _ _ => rfl, fun _ h => absurd h (by omega)⟩
    rw [e7]
    unfold gX10_rows_L124
    dsimp only
    rw [if_pos (nI_le (Nat.le_refl _) (by omega))]
    refine ⟨Mj, rfl, ?_, ?_, ?_, ?_, fun _ => j3, ?_⟩
    · exact hC6.hi (fun a i z => by rw [j2 a i (by omega), zI_of (by omega)]) (by rw [j1])
    · exact hM6.mono (fun a i d => by rw [j2 a i (by unfold dM at d; omega), zI_of (by unfold dM at d; omega)])
    · funext i; rw [j2 135 i (by omega), zI_of (by omega), c13 135 i (by omega)]
    · rw [j2 98 60 (by omega), zI_at]; exact nI_dec.symm
    · show itsA q V c (arrO L) + 1 ≤ 1000; omega
  · rw [if_neg (fun w => hu ((top_lt (by have := hs.2.2; omega) (by omega)).mp w)), if_neg hu]
    refine ⟨M6, rfl, hC6, hM6, ?_, ?_, fun w i hi => ?_, hs.2.2⟩
    · funext i; exact c13 135 i (by omega)
    · rw [c60 60 (by omega)]; exact hs.1
    · rw [c13 136 i (by omega)]; exact hs.2.1 w i hi
def pmG (d mask : Nat) (s : Nat) : List (List Nat) := if mask.testBit s then (perms d (mask - 2 ^ s)).map (s :: ·) else []
theorem perms_s {d mask : Nat} : perms (d + 1) mask = (List.range 6).flatMap (pmG d mask) := rfl
theorem range_ext {g : Nat → List (List Nat)} {n : Nat} (h : ∀ u, n ≤ u → g u = []) : ∀ e, (List.range (n + e)).flatMap g = (List.range n).flatMap g := by
  intro e
  induction e with
  | zero => rfl
  | succ e ih => rw [show n + (e + 1) = (n + e) + 1 by omega, List.range_succ, List.flatMap_append, ih, List.flatMap_singleton, h _ (by omega), List.append_nil]
set_option maxHeartbeats 1000000 in
theorem m_rows {q : PPt} {V : AV} {I : Option AV} {D : Nat × (Nat → AV)} {S : SSt} {B : Nat × (Nat → Int32)} {F : Int32 × Int32} {c : Nat} (hq : pI q) (hI : wI q V) (hc : c ≤ q.1) (hc4 : c ≤ 4) : ∀ d f mask (pr : List Nat) (st : Nat × List Nat) (M : zM), pcnt mask = d → mask < 64 → pr.length + d = c → d + 1 ≤ f → (∀ s, mask.testBit s = true → s < q.1) → (∀ l, l ∈ perms d mask → rowOK V c (arrO (pr ++ l)) ∧ (pr ++ l).length = c) → CR M q V I D S B F → MR M q V I D S B F → (∀ i, i < pr.length → M.1 135 i = arrO pr i) → stM M c st →
    ∃ M', gGO f (nI pr.length) (nI mask) M = some M' ∧ CR M' q V I D S B F ∧ MR M' q V I D S B F ∧ (∀ i, i < pr.length → M'.1 135 i = M.1 135 i) ∧ stM M' c (((perms d mask).map (pr ++ ·)).foldl (updO q V c) st) := by
  have hn := hq.1.1
  intro d
  induction d with
  | zero =>
    intro f mask pr st M hp hm hlen hf hb hrow hC hM h135 hs
    have m0 : mask = 0 := (pc_at hm).mpr hp
    subst m0
    obtain ⟨f', rfl⟩ : ∃ f', f = f' + 1 := ⟨f - 1, by omega⟩
    have hl : [] ∈ perms 0 0 := List.mem_cons_self
    obtain ⟨r1, r2⟩ := hrow [] hl
    rw [List.append_nil] at r1 r2
    have hlc : pr.length = c := by omega
    obtain ⟨M', a1, a2, a3, a4, a5⟩ := m_leaf (f := f') (L := pr) hC hM hq hI hc hc4 hlc r1 (fun i hi => h135 i (by omega)) hs
    refine ⟨M', ?_, a2, a3, fun i _ => by rw [a4], ?_⟩
    · show bX10_rows (gGO f') (nI pr.length) (nI 0) M = _
      rw [hlc]; exact a1
    · show stM M' c (updO q V c st (pr ++ []))
      rw [List.append_nil]; exact a5
  | succ d ih =>
    intro f mask pr st M hp hm hlen hf hb hrow hC hM h135 hs
    obtain ⟨f', rfl⟩ : ∃ f', f = f' + 1 := ⟨f - 1, by omega⟩
    show ∃ M', bX10_rows (gGO f') (nI pr.length) (nI mask) M = some M' ∧ _
    unfold bX10_rows
    have hne : ¬ mask = 0 := fun w => by have := (pc_at hm).mp w; omega
    rw [if_neg (by
      rw [← nI_0]
      intro w
      have := congrArg Int32.toInt w
      rw [nI_toInt (by omega), nI_toInt (by omega)] at this
      omega)]
    obtain ⟨s', N', ⟨Mk, rfl, g1, g2, g3, g4⟩, e⟩ := zfix_inv (B := gX10_rows_L6 (gGO f') (nI pr.length) (nI mask)) (fun k s => ∃ Mk : zM, s = (nI k, Mk) ∧ CR Mk q V I D S B F ∧ MR Mk q V I D S B F ∧ (∀ i, i < pr.length → Mk.1 135 i = M.1 135 i) ∧ stM Mk c ((((List.range k).flatMap (pmG d mask)).map (pr ++ ·)).foldl (updO q V c) st)) q.1 (fun k hk s hs' => by
        obtain ⟨Mk, rfl, g1, g2, g3, g4⟩ := hs'
        have e100 : Mk.1 100 0 = nI q.1 := g2.2.1.1.1.1
        have spl : (((List.range (k + 1)).flatMap (pmG d mask)).map (pr ++ ·)).foldl (updO q V c) st = ((pmG d mask k).map (pr ++ ·)).foldl (updO q V c) ((((List.range k).flatMap (pmG d mask)).map (pr ++ ·)).foldl (updO q V c) st) := by
          rw [List.range_succ, List.flatMap_append, List.flatMap_singleton, List.map_append, List.foldl_append]
        obtain ⟨t1, t2, t3, t4⟩ := bt_at hm (show k < 6 by omega)
        cases hbit : mask.testBit k with
        | false =>
          refine ⟨(nI (k + 1), Mk), ⟨Mk, rfl, g1, g2, g3, ?_⟩, fun rc => ?_⟩
          · rw [spl]
            have : pmG d mask k = [] := by unfold pmG; rw [hbit]; rfl
            rw [this]; exact g4
          · unfold gX10_rows_L6
            dsimp only
            rw [cl0, e100, if_neg (nI_ge hk (by omega)), t1, hbit, show (if false = true then (1 : Int32) else 0) = 0 from rfl, if_pos rfl, nI_1]
        | true =>
          obtain ⟨u1, u2, u3, u4⟩ := t4 hbit
          have eg : pmG d mask k = (perms d (mask - 2 ^ k)).map (k :: ·) := by unfold pmG; rw [hbit]; rfl
          have hk4 : pr.length < 4 := by omega
          have cz : CR (zI Mk 135 pr.length (nI k)) q V I D S B F := g1.hi (fun a i z => zI_of (by omega)) rfl
          have mz : MR (zI Mk 135 pr.length (nI k)) q V I D S B F := g2.mono (fun a i dd => zI_of (by unfold dM at dd; omega))
          obtain ⟨M6, k1, k2, k3, k4, k5⟩ := ih f' (mask - 2 ^ k) (pr ++ [k]) ((((List.range k).flatMap (pmG d mask)).map (pr ++ ·)).foldl (updO q V c) st) (zI Mk 135 pr.length (nI k)) (by omega) u3 (by rw [List.length_append]; show pr.length + 1 + d = c; omega) (by omega) (fun s hs2 => by
              by_cases s6 : s < 6
              · rw [u4 s s6, Bool.and_eq_true] at hs2
                exact hb s hs2.1
              · have hlt : mask - 2 ^ k < 2 ^ s := Nat.lt_of_lt_of_le u3 (by have := Nat.pow_le_pow_right (n := 2) (by omega) (show 6 ≤ s by omega); omega)
                rw [Nat.testBit_lt_two_pow hlt] at hs2; cases hs2) (fun l hl => by
              have : k :: l ∈ perms (d + 1) mask := by
                rw [perms_s]
                exact List.mem_flatMap.mpr ⟨k, List.mem_range.mpr (by omega), by rw [eg]; exact List.mem_map.mpr ⟨l, hl, rfl⟩⟩
              have := hrow (k :: l) this
              rw [List.append_assoc]
              exact this) cz mz (fun i hi => by
              rw [List.length_append] at hi
              have hi' : i < pr.length + 1 := hi
              by_cases w : i = pr.length
              · rw [w, zI_at, arrO_last]
              · rw [zI_of (by omega), g3 i (by omega), arrO_app (by omega)]
                exact h135 i (by omega)) ⟨by rw [zI_of (by omega)]; exact g4.1, fun w i hi => by rw [zI_of (by omega)]; exact g4.2.1 w i hi, g4.2.2⟩
          refine ⟨(nI (k + 1), M6), ⟨M6, rfl, k2, k3, fun i hi => ?_, ?_⟩, fun rc => ?_⟩
          · rw [k4 i (by rw [List.length_append]; show i < pr.length + 1; omega), zI_of (by omega), g3 i hi]
          · rw [spl, eg, List.map_map]
            have : ((fun x => pr ++ x) ∘ fun x => k :: x) = fun x => (pr ++ [k]) ++ x := by
              funext x
              show pr ++ (k :: x) = (pr ++ [k]) ++ x
              rw [List.append_assoc]; rfl
            rw [this]
            exact k5
          · unfold gX10_rows_L6
            dsimp only
            rw [cl0, e100, if_neg (nI_ge hk (by omega)), t1, hbit, show (if true = true then (1 : Int32) else 0) = 1 from rfl, if_neg (show ¬ (1 : Int32) = 0 by decide), zg_true (zok_nI hk4 (by omega)), zlet_eq, nI_cl (by omega), u1, nI_1, nI_1]
            rw [List.length_append] at k1
            rw [zcV_some (show gGO f' (nI (pr.length + 1)) (nI (mask - 2 ^ k)) (zI Mk 135 pr.length (nI k)) = some M6 from k1)]) q.1 0 zFu (0, M) (by omega) (by unfold zFu; omega) ⟨M, by rw [nI_0], hC, hM, fun _ _ => rfl, hs⟩
    refine ⟨Mk, ?_, g1, g2, g3, ?_⟩
    · rw [e]
      unfold gX10_rows_L6
      dsimp only
      rw [cl0, show Mk.1 100 0 = nI q.1 from g2.2.1.1.1.1, if_pos (nI_le (Nat.le_refl _) (by omega))]
    · rw [perms_s, show (6 : Nat) = q.1 + (6 - q.1) by omega, range_ext (fun u hu => by
        unfold pmG
        cases hbb : mask.testBit u with
        | false => rfl
        | true => have := hb u hbb; omega)]
      exact g4
theorem k_order {M : zM} (h : Rel M) (x : Int32) : ∃ r M1 M2, gX9_order x M = some (r, M1) ∧ gX10_order x M1 = some (r, M2) ∧ Rel M2 := by
  have h' := h
  obtain ⟨q, V, I, D, S, B, F, hA, hC, hM⟩ := h
  have hq := hA.1
  have hI := hA.2.1
  have hn := hq.1.1
  unfold gX9_order
  by_cases h1 : x < 0
  · rw [if_pos h1]
    refine ⟨-1, M, zI M 98 0 0, rfl, ?_, h'.z⟩
    unfold gX10_order
    rw [zlet_eq, if_pos h1]
  · rw [if_neg h1]
    by_cases h2 : x ≤ 4
    · rw [if_pos h2]
      obtain ⟨k, hk, rfl⟩ := cnt_of (n := 4) (x := x) (lit := 4) (by decide) (by omega) h1 h2
      have hcc : ∃ c, c = (if q.1 < 4 then q.1 else 4) := ⟨_, rfl⟩
      obtain ⟨c, ec⟩ := hcc
      have hc : c ≤ q.1 := by rw [ec]; split <;> omega
      have hc4 : c ≤ 4 := by rw [ec]; split <;> omega
      have emin : (if nI q.1 < 4 then nI q.1 else 4) = nI c := by
        rw [ec, litF]
        by_cases w : q.1 < 4
        · rw [if_pos w, if_pos ((nI_lt_iff (by omega) (by omega)).mpr w)]
        · rw [if_neg w, if_neg (fun v => w ((nI_lt_iff (by omega) (by omega)).mp v))]
      have hC0 := hC
      obtain ⟨p, c1, c2, c3, c4⟩ := hC0
      rw [zgP_some c1.1 c2.1.1, c2.1.2.1.1, zlet_eq, emin]
      obtain ⟨M1, a1, a2, a3⟩ := c_order (x := k) hC hM hq hI hc hc4 hk
      have hz := a3.z (y := 0)
      obtain ⟨so1, so2, so3⟩ := so_at hc4 (rkL_arr hI hn c hc)
      obtain ⟨rw1, rw2, rw3⟩ := rw_at so3 (by rw [so2]; exact hc4)
      rw [so2] at rw1 rw2 rw3
      have hz6 : stM (zI (zI M1 98 0 0) 98 60 (-1)) c (0, []) := ⟨by rw [zI_at]; decide, fun w => absurd rfl w, by show 0 ≤ 1000; omega⟩
      have hCz : CR (zI (zI M1 98 0 0) 98 60 (-1)) q V I D S B F := a2.z.hi (fun a i z => zI_of (by omega)) rfl
      have hMz : MR (zI (zI M1 98 0 0) 98 60 (-1)) q V I D S B F := hz.mono (fun a i d => zI_of (by unfold dM at d; omega))
      obtain ⟨M5, e1, e2, e3, e4, e5⟩ := m_rows hq hI hc hc4 c 8 (maskO (rkL V c)) [] (0, []) (zI (zI M1 98 0 0) 98 60 (-1)) so2 so3 (by simp) (by omega) (fun s hs => by
          obtain ⟨j, hj, ej⟩ := rkL_mem c (maskO_mem _ hs)
          obtain ⟨m', hm', e'⟩ := hI.1.1 j (by omega)
          rw [e', nI_cl (by omega)] at ej
          omega) (fun l hl => by
          have := rowOK_of hI hn hc (rw3 l hl)
          exact this) hCz hMz (fun i hi => absurd hi (by simp)) hz6
      have em : ((perms c (maskO (rkL V c))).map ([] ++ ·)).foldl (updO q V c) (0, []) = fS q V c (maskO (rkL V c)) (perms c (maskO (rkL V c))).length := by
        rw [show (perms c (maskO (rkL V c))).map ([] ++ ·) = perms c (maskO (rkL V c)) from List.map_id' _, fo_foldl (d := [])]
        rfl
      rw [em] at e5
      have hmask : zfix zFu (gX10_order_L32 (nI k) (nI c) (zI M1 98 0 0)) (0, 0) = some (ordR k c (fS q V c (maskO (rkL V c)) (perms c (maskO (rkL V c))).length), M5) := by
        refine zfix_run (fun j => (nI (maskO (rkL V j)), nI j)) c (by rw [nI_0]; rfl) (by unfold zFu; omega) ?_ ?_
        · intro j hj rc
          obtain ⟨m, hm, em'⟩ := hI.1.1 j (by omega)
          have e129 : (zI M1 98 0 0).1 129 j = nI m := by
            have := hz.2.2.1.mm (c := 1) (by omega) (by omega) (by omega) (show j < q.1 by omega)
            rw [Nat.mul_zero, Nat.zero_add, em'] at this
            exact this
          unfold gX10_order_L32
          dsimp only
          rw [if_neg (nI_ge hj (by omega)), zg_true (zok_nI (show j < 138 by omega) (by omega)), zlet_eq, nI_cl (by omega), e129, (bt_at (so_at (show j ≤ 4 by omega) (rkL_arr hI hn j (by omega))).2.2 (show m < 6 by omega)).2.1, nI_1]
          show _ = rc (nI (maskO ((V 1 j).toNatClampNeg :: rkL V j)), _)
          rw [em', nI_cl (by omega)]
          rfl
        · intro rc
          unfold gX10_order_L32
          dsimp only
          rw [if_pos (nI_le (Nat.le_refl _) (by omega)), zlet_eq, zcV_some (show gGO 8 0 (nI (maskO (rkL V c))) _ = some M5 from e1)]
          unfold ordR
          by_cases x4 : k = 4
          · rw [x4, if_pos (by decide), if_pos rfl, e5.1]
          · rw [litF, if_neg (by
              intro w
              have := congrArg Int32.toInt w
              rw [nI_toInt (by omega), nI_toInt (by omega)] at this
              omega), if_neg x4]
            by_cases hcx : c ≤ k
            · rw [if_pos hcx, if_pos (nI_le hcx (by omega))]
            · rw [if_neg hcx, if_neg (nI_ge (by omega) (by omega)), zg_true (zok_nI (show k < 4 by omega) (by omega)), nI_cl (by omega)]
              have hnz : (fS q V c (maskO (rkL V c)) (perms c (maskO (rkL V c))).length).1 ≠ 0 := by
                rw [show (perms c (maskO (rkL V c))).length = ((perms c (maskO (rkL V c))).length - 1) + 1 by omega, fS_s]
                exact (updO_le hq (fS_le hq _)).2
              rw [e5.2.1 hnz k (by omega)]
      refine ⟨_, M1, M5, a1, ?_, q, V, I, D, S, B, F, hA, e2, e3⟩
      unfold gX10_order
      rw [zlet_eq (zI M1 98 0 0), if_neg h1, if_pos h2, cl0, hz.2.1.1.1.1, zlet_eq, emin]
      exact hmask
    · rw [if_neg h2]
      refine ⟨-1, M, zI M 98 0 0, rfl, ?_, h'.z⟩
      unfold gX10_order
      rw [zlet_eq, if_neg h1, if_neg h2]
