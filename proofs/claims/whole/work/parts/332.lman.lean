/-! ===== the law's man: its three ends ===== -/
theorem zPx_call {G : zG} {s1 s2 : Nat} {s U : State} (h : zPx (zB G) s1 s2 s s.heap) (hU : U.heap = s.heap) (hW : s.WarmedH U.vm) : zPx (zA G) s1 s2 U U.heap := by
  rw [hU]
  exact (h.narrow (fun q hq => zA_B q hq)).warm hW
/-- a throw of the class's man, caught -/
theorem lm_throw {G : zG} {s1 s2 : Nat} {x y r : Int32} {M : zM} {o : Int64} {l : Launch} {E0 : String} (hne : ∀ i, i < zN → G.2.2 i ≠ G.2.2 149)
    (hM : vx_Met l tX9_man.1 (zw tX9_man) (rmx 8) (zPm G s1 s2 [.ref 0, .int x, .int y] M) (fun _ _ _ _ => False) (zXc G M E0) 1 6 (zA G))
    (fin : ∀ (p : Program) (e : Env) (s : State) (m : MethodId) (args : Array Value) (below : List Frame) (meth : Method) (c : Code) (ls : Array Slot) (H : Heap) (locs : List Loc) (q : Addr) (ce : Cell), mC G s1 s2 M o p s m args meth c → zL G ls 5 (lvM x y) → zR G M H → yO G o H → va_S (zB G) s.heap H locs → H[q]? = some ce → ce.vm = .none → s.vm.findClass E0 = some ce.cls →
      vx_W p l e rLm s m args below meth c H locs 1 6 (MQ below (zQm G M r o) args s 1 6 (zB G)) (F0 m 5 ls [.int 0, .ref (G.2.2 149)]) q) : Met l yL_man wLm rLm (zPl G s1 s2 x y M o) (zQm G M r o) 1 6 (zB G) := by
  refine lm_of (fun p e s m args below meth c ls hC hl => ?_)
  refine lm_to5 hC hl ?_
  have hC' := hC
  obtain ⟨hx, hb, hr, hml, hown, hts, hK, hI, hN, hZ, hlk, htab, hR, hO, hpx⟩ := hC'
  have run := vx_runV (p := p) (l := l) (e := e) (R := rLm) (s := s) (m := m) (args := args) (below := below) (meth := meth) (c := c) (H := s.heap) (locs := []) (cells := 0) (slots := 0) (g := F0 m 5 ls [.int y, .int x, .ref (G.2.2 0), .int 0, .ref (G.2.2 149)]) (rest := [.int 0, .ref (G.2.2 149)]) (As := [.int x, .int y]) (b := G.2.2 0) (Ts := zWS) (own := RL) (C := RX9) ⟨hx, hb, hml, hown, hts⟩ hM (lm_cw hC rfl rfl (by decide) (by decide))
    ⟨zPm_blind G s1 s2 _ M, lm_rec hC, fun U hU hW => ⟨z_pre hK hI hN hZ hR va_S.rf [.ref 0, .int x, .int y] U hU hW, zPx_call hpx hU hW⟩⟩ rfl rfl hl.1 rfl (lv_room (Nat.le_of_ble_eq_true rfl)) dL_man_5 ⟨by decide, by decide⟩
  intro T hT X
  rcases run T hT X with ⟨v, st₀, t, T', L, h0, X', hL, e1, e2, w, st⟩ | ⟨q, st₀, t, T', L, E, ce, h0, X', hL, e1, e2, ⟨rfl, hR', hF⟩, hce, hcv, hcl, st⟩
  · exact w.elim
  · obtain ⟨k1, k2, k3⟩ := vx_keep (A0 := zB G) (H0 := s.heap) h0 e1 va_S.rf (fun q _ h => zA_B q h) (fun q h => zA_B q h) hL hF
    have n149 : ¬ zA G (G.2.2 149) := fun w => by
      obtain ⟨i', hi', w2⟩ := w
      exact hne i' hi' w2.symm
    obtain ⟨t2, a1, b1⟩ := fin p e s m args below meth c ls T'.heap ([] ++ L) q ce hC hl (by rw [e1]; exact hR') (yO_kept hO (k2 _ (yO_lt hO) n149)) k3 (by rw [e1]; exact hce) hcv hcl T' rfl X'
    exact ⟨t2, st.trans a1, b1⟩
theorem lm_x1 {G : zG} {s1 s2 : Nat} {x y : Int32} {M : zM} {o : Int64} {l : Launch} (hst : l.stackTraces = false) (hne : ∀ i, i < zN → G.2.2 i ≠ G.2.2 149) (hi : gX9_isMan x M = some 0) : Met l yL_man wLm rLm (zPl G s1 s2 x y M o) (zQm G M 1 o) 1 6 (zB G) := by
  refine lm_throw hne (mX9_man_x1 hst hi) (fun p e s m args below meth c ls H locs q ce hC hl hR hO hS hce hcv hcl => ?_)
  obtain ⟨hx, hb, hr, hml, hown, hts, hK, hI, hN, hZ, hlk, htab, -, -, hpx⟩ := hC
  refine vx_catch (own := RL) (name := eI) hown [] ⟨0, 10, 13, 13⟩ [⟨0, 10, 17, 15⟩] htab (fun z hz => by cases hz) (by decide) (by decide) (hts _ (zin zk13 rfl)) (va_Nw.use rfl (hpx.1 _ (by decide +kernel))) hce hcv hcl ?_
  refine lv_astore hx hb dL_man_13 (zpairs_has hl) (by decide) rfl (fun ls' _ => ?_)
  refine lv_iconst (v := 1) hx hb dL_man_15 (by decide) ?_
  exact W.iret hx hb hr (fun t ht _ => ⟨rfl, by rw [ht]; exact hR, by rw [ht]; exact hO, hS.F ht⟩) hS.2.2 dL_man_16 hlk
theorem lm_x2 {G : zG} {s1 s2 : Nat} {x y : Int32} {M : zM} {o : Int64} {l : Launch} (hst : l.stackTraces = false) (hne : ∀ i, i < zN → G.2.2 i ≠ G.2.2 149) (hi : gX9_isMan x M = some 1) (hy : y < 0 ∨ 8 < y) : Met l yL_man wLm rLm (zPl G s1 s2 x y M o) (zQm G M 2 o) 1 6 (zB G) := by
  refine lm_throw hne (mX9_man_x2 hst hi hy) (fun p e s m args below meth c ls H locs q ce hC hl hR hO hS hce hcv hcl => ?_)
  obtain ⟨hx, hb, hr, hml, hown, hts, hK, hI, hN, hZ, hlk, htab, -, -, hpx⟩ := hC
  refine vx_catch (own := RL) (name := eN) hown [⟨0, 10, 13, 13⟩] ⟨0, 10, 17, 15⟩ [] htab (fun z hz => by
      rcases List.mem_singleton.mp hz with rfl
      exact Or.inr ⟨by decide, eI, hts _ (zin zk13 rfl), hpx.2.2.2.2.2⟩) (by decide) (by decide) (hts _ (zin zk15 rfl)) (va_Nw.use rfl (hpx.1 _ (by decide +kernel))) hce hcv hcl ?_
  refine lv_astore hx hb dL_man_17 (zpairs_has hl) (by decide) rfl (fun ls' _ => ?_)
  refine lv_iconst (v := 2) hx hb dL_man_19 (by decide) ?_
  exact W.iret hx hb hr (fun t ht _ => ⟨rfl, by rw [ht]; exact hR, by rw [ht]; exact hO, hS.F ht⟩) hS.2.2 dL_man_20 hlk
theorem zW_len (G : zG) (M : zM) : (zW G M).length = zN := by simp [zW]
theorem lm_a {G : zG} {s1 s2 : Nat} {x y v : Int32} {M : zM} {o : Int64} {l : Launch} {c0 : Nat} (hne : ∀ i, i < zN → G.2.2 i ≠ G.2.2 149) (hi : gX9_isMan x M = some 1) (hc8 : c0 ≤ 8) (hy : y = nI c0) (hv : cMv x y M = some v) : Met l yL_man wLm rLm (zPl G s1 s2 x y M o) (zQm G M 0 v.toInt64) 1 6 (zB G) := by
  refine lm_of (fun p e s m args below meth c ls hC hl => ?_)
  refine lm_to5 hC hl ?_
  have hC' := hC
  obtain ⟨hx, hb, hr, hml, hown, hts, hK, hI, hN, hZ, hlk, htab, hR, hO, hpx⟩ := hC'
  have run := va_runV (p := p) (l := l) (e := e) (R := rLm) (s := s) (m := m) (args := args) (below := below) (meth := meth) (c := c) (H := s.heap) (locs := []) (cells := 0) (slots := 0) (g := F0 m 5 ls [.int y, .int x, .ref (G.2.2 0), .int 0, .ref (G.2.2 149)]) (rest := [.int 0, .ref (G.2.2 149)]) (As := [.int x, .int y]) (b := G.2.2 0) (Ts := zWS) (own := RL) (C := RX9) ⟨hx, hb, hml, hown, hts⟩ (mX9_man_a hi hc8 hy hv l) (lm_cw hC rfl rfl (by decide) (by decide))
    ⟨zPc_blind G _ M, lm_rec hC, z_pre hK hI hN hZ hR va_S.rf [.ref 0, .int x, .int y]⟩ rfl rfl hl.1 rfl (lv_room (Nat.le_of_ble_eq_true rfl)) dL_man_5 ⟨by decide, by decide⟩
  intro T hT X
  obtain ⟨v', st₀, t, T', L, h0, X', hL, e1, e2, ⟨r, M', ho, hq, hR', hF⟩, go⟩ := run T hT X
  obtain ⟨r0, rfl, e3, e4⟩ := hq
  subst e3 e4
  have hv' : v' = some (.int r0) := by injection ho
  subst hv'
  obtain ⟨k1, k2, k3⟩ := vx_keep (A0 := zB G) (H0 := s.heap) h0 e1 va_S.rf (fun q _ h => zA_B q h) (fun q h => zA_B q h) hL hF
  have n149 : ¬ zA G (G.2.2 149) := fun w => by
    obtain ⟨i', hi', w2⟩ := w
    exact hne i' hi' w2.symm
  have hO1 := yO_kept hO (k2 _ (yO_lt hO) n149)
  obtain ⟨f, hf0, hPO⟩ := hO1
  have hR1 : zR G M' T'.heap := by rw [e1]; exact hR'
  have hP : va_P G.1 vwCl (zW G M' ++ [(G.2.2 149, .inl (G.2.1 3, 1, .inr (.inl f)))]) T'.heap := hR1.app hPO
  have hD : va_D (zB G) (zW G M' ++ [(G.2.2 149, .inl (G.2.1 3, 1, .inr (.inl f)))]) := by
    have hD0 := zW_D hI M'
    have at149 : ∀ (k : Nat) (q : Nat × va_E), ([(G.2.2 149, .inl (G.2.1 3, 1, .inr (.inl f)))] : va_W)[k]? = some q → k = 0 ∧ q.1 = G.2.2 149 := fun k q h => by
      cases k with
      | zero => cases h; exact ⟨rfl, rfl⟩
      | succ k => cases h
    have sp : ∀ (k : Nat) (q : Nat × va_E), (zW G M' ++ [(G.2.2 149, .inl (G.2.1 3, 1, .inr (.inl f)))])[k]? = some q → (k < zN ∧ (zW G M')[k]? = some q) ∨ (k = zN ∧ q.1 = G.2.2 149) := fun k q h => by
      rw [List.getElem?_append, zW_len] at h
      split at h
      · rename_i hk; exact Or.inl ⟨hk, h⟩
      · rename_i hk
        obtain ⟨a1, a2⟩ := at149 _ _ h
        exact Or.inr ⟨by omega, a2⟩
    have nin : ∀ (k : Nat) (q : Nat × va_E), (zW G M')[k]? = some q → q.1 ≠ G.2.2 149 := fun k q h w => by
      obtain ⟨i', hi', w2⟩ := hD0.2 k q h
      exact hne i' hi' (w2.symm.trans w)
    refine ⟨fun i j a b ha hb hab => ?_, fun k q hq => ?_⟩
    · rcases sp i a ha with ⟨i1, i2⟩ | ⟨i1, i2⟩ <;> rcases sp j b hb with ⟨j1, j2⟩ | ⟨j1, j2⟩
      · exact hD0.1 i j a b i2 j2 hab
      · exact absurd (hab.trans j2) (nin i a i2)
      · exact absurd (hab.symm.trans i2) (nin j b j2)
      · omega
    · rcases sp k q hq with ⟨i1, i2⟩ | ⟨i1, i2⟩
      · exact zA_B _ (hD0.2 k q i2)
      · exact Or.inr i2
  have at0 : (zW G M' ++ [(G.2.2 149, .inl (G.2.1 3, 1, .inr (.inl f)))])[zN]? = some (G.2.2 149, .inl (G.2.1 3, 1, .inr (.inl f))) := by
    rw [List.getElem?_append_right (by rw [zW_len]; exact Nat.le_refl _), zW_len, Nat.sub_self]
    rfl
  have key : W p l e rLm s m args below meth c T'.heap ([] ++ L) 0 0 (MQ below (zQm G M' 0 r0.toInt64) args s 1 6 (zB G)) (F0 m 8 ls [.int r0, .int 0, .ref (G.2.2 149)]) := by
    refine lv_i2l hx hb dL_man_8 rfl ?_
    refine va_last hx hb hK hP hD k3 zN 3 at0 rfl (show vp_in 0 1 from zok_in (by decide)) dL_man_9 (fun H1 locs1 hP1 hD1 hS1 => ?_)
    have hset : (zW G M' ++ ([(G.2.2 149, .inl (G.2.1 3, 1, .inr (.inl f)))] : va_W)).set zN (G.2.2 149, .inl (G.2.1 3, 1, .inr (.inl (vp_updL f (0 : Int32).toNatClampNeg r0.toInt64)))) = zW G M' ++ ([(G.2.2 149, .inl (G.2.1 3, 1, .inr (.inl (vp_updL f (0 : Int32).toNatClampNeg r0.toInt64))))] : va_W) := by
      rw [List.set_append_right _ _ (by rw [zW_len]; exact Nat.le_refl _), zW_len, Nat.sub_self]
      rfl
    rw [hset] at hP1
    have hR2 : zR G M' H1 := fun k q hq => hP1 k q (by rw [List.getElem?_append_left ((List.getElem?_eq_some_iff.mp hq).1)]; exact hq)
    have hO2 : yO G r0.toInt64 H1 := ⟨vp_updL f (0 : Int32).toNatClampNeg r0.toInt64, if_pos rfl, fun k q hq => hP1 (zN + k) q (by rw [List.getElem?_append_right (by rw [zW_len]; exact Nat.le_add_right _ _), zW_len, Nat.add_sub_cancel_left]; exact hq)⟩
    refine lv_goto hx hb dL_man_10 (tgt := 21) (by decide) ?_
    refine lv_iconst (v := 0) hx hb dL_man_21 (by decide) ?_
    refine W.widen (k := 1) (n := 6) (by decide) (by decide) ?_
    exact W.iret hx hb hr (fun t ht _ => ⟨rfl, by rw [ht]; exact hR2, by rw [ht]; exact hO2, hS1.F ht⟩) hS1.2.2 dL_man_22 hlk
  obtain ⟨t2, b1, b2⟩ := key T' rfl X'
  exact ⟨t2, go t2 b1, b2⟩
