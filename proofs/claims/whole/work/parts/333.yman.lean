/-! ===== the law's case of man ===== -/
theorem zkLc : Cond.codeWith yL_man cL_man 5 (some .int) [(0, 10, 13, 13), (0, 10, 17, 15)] ∈ zWS := zin (by decide +kernel) rfl
theorem zkLs : Cond.static yL_man ∈ zWS := zin (by decide +kernel) rfl
theorem zkLi : Cond.initialized RL ∈ zWS := zin (by decide +kernel) rfl
section YM
variable {G : zG} {Y : zY} {L : Nat} {xs : Nat → Int32} {k n pc : Nat} {lv : List (Option Value)} {st : List Value} {M : zM} {o : Int64}
theorem y_callMan (hY : yC G Y L xs) {s1 s2 : Nat} {x y r : Int32} {o2 : Int64} {st0 : List Value} (hpx : zPx (yA Y.2.2.2.1) s1 s2 Y.2.2.2.1 Y.2.2.2.1.heap) (hM : Met Y.2.1 yL_man wLm rLm (zPl G s1 s2 x y M o) (zQm G M r o2) 1 6 (zB G)) (d : decode code pc = .ok (.invokestatic 39, 3)) (hst : st0 = .ref 149 :: .int y :: .int x :: .ref 0 :: st) (hW : (st.map fun v => v.category).sum ≤ 8) (hk : k + 1 ≤ 601024) (hn' : n + 6 ≤ 7293034) (q : Nat) (hn : pc + 3 = q) (kk : ZL G Y (k + 1) (n + 6) q lv (.int r :: st) M o2) : ZL G Y k n pc lv st0 M o := by
  obtain ⟨p, l, e, s, m, below, meth, c⟩ := Y
  subst hn hst
  intro H locs ls hl' hR hO hS
  obtain ⟨⟨hx, hb, hr, hml, hown, hts, hX, hbl, hlk, hg⟩, hK, hI, hN, hZ, hge, hge2, hne⟩ := hY
  dsimp only at hx hb hr hml hown hts hX hbl hlk hg hK hN hZ hge hge2 hM hpx
  have htz : ∀ w ∈ zWS, w.before #[Value.ref (G.2.2 148)] s = true := fun w hw => hts w (List.mem_filter.mp hw).1
  have hT : GoodIn zWS (va_wsS RL 39 yL_man wLm) := zgood (fun w hw => by
    rcases List.mem_append.mp hw with h | h
    · simp only [List.mem_cons, List.not_mem_nil, or_false] at h
      rcases h with rfl | rfl | rfl
      · exact lL_39
      · exact zkLs
      · exact zkLi
    · rcases List.mem_cons.mp h with rfl | h
      · exact zkLc
      · exact h)
  have zBy : ∀ q, zB G q → yA s q := fun q hq => by
    rcases hq with ⟨i', hi', rfl⟩ | rfl
    · exact hge i' hi'
    · exact hge2
  have cw := vx_cwSW (R := room_1) (own := RL) (index := 39) (maxL := 5) (mc := 1) (ms := 6) (y := yL_man) (bytes := cL_man) (ret := some .int) (hh := [(0, 10, 13, 13), (0, 10, 17, 15)]) (ws := wLm) (ws' := zWS) (rm := rLm) 4 htz hT rfl rfl rfl ⟨by decide +kernel, by decide +kernel, by decide +kernel⟩ ⟨by show 9 + 1 ≤ 2048; decide, by show 8 + (5 + 11) + 400 ≤ 84000; decide⟩
  have run := vx_runSW (p := p) (l := l) (e := e) (R := room_1) (s := s) (m := m) (args := #[Value.ref (G.2.2 148)]) (below := below) (meth := meth) (c := c) (H := H) (locs := locs) (cells := k) (slots := n) (g := F0 m pc ls ((.ref 149 :: .int y :: .int x :: .ref 0 :: st).map (zrv G.2.2))) (rest := st.map (zrv G.2.2)) (As := [.ref (G.2.2 0), .int x, .int y, .ref (G.2.2 149)]) (nL := 7) ⟨hx, hb, hml, hown, htz⟩ hM cw
    ⟨zPl_blind G s1 s2 x y M o, fun U hU hW => ⟨y_pre hK hI hN hZ hR hS [.ref 0, .int x, .int y, .ref 149] U hU hW, by rw [hU]; exact hO, by
      rw [hU]
      exact ((hpx.narrow zBy).kept (fun q h1 h2 => hS.2.1 q h1 (fun w => Nat.not_le_of_lt h1 w))).warm hW⟩⟩ rfl rfl (show ls.size = 7 from hl'.1) rfl (lv_room (by rw [z_cat]; exact hW)) d ⟨by show k + 1 ≤ 601024; omega, by show n + 6 ≤ 7293034; omega⟩
  intro T hTe XX
  obtain ⟨v, st₀, t', T', Lc, h0, X', hL, e1, e2, ⟨ho, hR', hO', hF⟩, go⟩ := run T hTe XX
  have hv' : v = some (.int r) := by injection ho
  subst hv'
  obtain ⟨hz, hkp⟩ := hF
  rw [h0] at hz hkp
  have nz : ∀ q, q < s.heap.size → ¬ zB G q := fun q h1 h2 => Nat.not_le_of_lt h1 (zBy q h2)
  have hS' : va_S (yA s) s.heap T'.heap (locs ++ Lc) := ⟨Nat.le_trans hS.1 (by rw [e1]; exact hz), fun q h1 h2 => by rw [e1, hkp q (Nat.lt_of_lt_of_le h1 hS.1) (nz q h1)]; exact hS.2.1 q h1 h2, fun q hq => by
      rcases List.mem_append.mp hq with h | h
      · exact hS.2.2 q h
      · exact zBy _ (hL q h)⟩
  have key := kk T'.heap (locs ++ Lc) ls hl' (by rw [e1]; exact hR') (by rw [e1]; exact hO') hS'
  obtain ⟨t2, b1, b2⟩ := key T' rfl X'
  exact ⟨t2, go t2 b1, b2⟩
theorem y_lald0 (hY : yC G Y L xs) (d : decode code pc = .ok (.laload, 1)) (q : Nat) (hn : pc + 1 = q) (kk : ZL G Y k n q lv (.long o :: st) M o) : ZL G Y k n pc lv (.int 0 :: .ref 149 :: st) M o := by
  obtain ⟨p, l, e, s, m, below, meth, c⟩ := Y
  subst hn
  intro H locs ls hl hR hO hS
  obtain ⟨f, hf, hP⟩ := hO
  refine va_lald hY.1.1 hY.1.2.1 hY.2.1 hP 0 3 rfl rfl (show vp_in 0 1 from zok_in (by decide)) d ?_
  have e0 : f (0 : Int32).toNatClampNeg = o := hf
  rw [e0]
  exact kk H locs ls hl hR ⟨f, hf, hP⟩ hS
end YM
theorem law_man {G : zG} {Y : zY} {L s1 s2 : Nat} {xs : Nat → Int32} (hY : yC G Y L xs) (hst : Y.2.1.stackTraces = false) (hpx : zPx (yA Y.2.2.2.1) s1 s2 Y.2.2.2.1 Y.2.2.2.1.heap) : yMan G Y L 1 6 := by
  intro M i k n a5 a6 o h hL hk hn K
  obtain ⟨b, M2, e1, hrel, hcase⟩ := k_man h (xs (i + 1)) (xs (i + 2))
  have hne : ∀ i, i < zN → G.2.2 i ≠ G.2.2 149 := hY.2.2.2.2.2.2.2
  have fin : ∀ (r : Int32) (o2 : Int64), Met Y.2.1 yL_man wLm rLm (zPl G s1 s2 (xs (i + 1)) (xs (i + 2)) M o) (zQm G M r o2) 1 6 (zB G) → M2.1 98 0 = r → (r = 0 → o2 = b.toInt64) → ZL G Y k n 352 (lvL i a5 a6) [] M o := fun r o2 hM er eo => by
    refine y_aload_n hY dL_law_352 rfl _ rfl ?_
    refine y_arg (j := 1) hY hL dL_law_353 dL_law_354 dL_law_356 dL_law_357 dL_law_358 (by decide) (by omega) ?_
    refine y_arg (j := 2) hY hL dL_law_359 dL_law_360 dL_law_362 dL_law_363 dL_law_364 (by decide) (by omega) ?_
    refine y_aload_n hY dL_law_365 rfl _ rfl ?_
    refine y_callMan hY hpx hM dL_law_366 rfl (by decide) hk hn _ rfl ?_
    refine y_istore hY dL_law_369 (by decide) _ rfl ?_
    show ZL G Y (k + 1) (n + 6) 371 (lvL i (some (.int r)) a6) [] M o2
    refine y_aload_n hY dL_law_371 rfl _ rfl ?_
    refine y_arg (j := 1) hY hL dL_law_372 dL_law_373 dL_law_375 dL_law_376 dL_law_377 (by decide) (by omega) ?_
    refine y_arg (j := 2) hY hL dL_law_378 dL_law_379 dL_law_381 dL_law_382 dL_law_383 (by decide) (by omega) ?_
    refine y_callI hY vX10_man lL_44 dL_law_384 zs_98 rfl (mX10_man e1) (by decide) rfl rfl (Nat.le_of_ble_eq_true rfl) hk hn ?_
    refine y_istore hY dL_law_387 (by decide) _ rfl ?_
    show ZL G Y (k + 1) (n + 6) 389 (lvL i (some (.int r)) (some (.int b))) [] M2 o2
    refine y_aload_n hY dL_law_389 rfl _ rfl ?_
    refine y_callIp hY vX10_thrown lL_45 dL_law_390 zs_98 rfl (mX10_thrown (res := r) (by unfold gX10_thrown; rw [er])) (by decide) rfl rfl (Nat.le_of_ble_eq_true rfl) hk hn ?_
    refine y_iload hY dL_law_393 rfl _ rfl ?_
    refine y_icmp_eq hY dL_law_395 400 _ (by decide) rfl (fun _ => ?_) (fun w => absurd rfl w)
    have e417 : ZL G Y (k + 1) (n + 6) 417 (lvL i (some (.int r)) (some (.int b))) [] M2 o2 := y_goto hY dL_law_417 1359 (by decide) (K M2 o2 _ _ hrel)
    refine y_iload hY dL_law_400 rfl _ rfl ?_
    refine y_if_ne hY dL_law_402 417 _ (by decide) rfl (fun _ => e417) (fun w => ?_)
    refine y_aload_n hY dL_law_405 rfl _ rfl ?_
    refine y_iconst hY dL_law_406 (v := 0) (by decide) _ rfl ?_
    refine y_lald0 hY dL_law_407 _ rfl ?_
    refine y_iload hY dL_law_408 rfl _ rfl ?_
    refine y_i2l hY dL_law_410 _ rfl ?_
    refine y_lcmp hY dL_law_411 _ rfl ?_
    rw [eo w, lg_cmp_self]
    rw [eo w] at e417
    exact y_if_eq hY dL_law_412 417 _ (by decide) rfl (fun _ => e417) (fun w2 => absurd rfl w2)
  rcases hcase with ⟨c1, c2⟩ | ⟨c1, ⟨c2, c3⟩ | ⟨c, c2, c3, c4, c5⟩⟩
  · exact fin 1 o (lm_x1 hst hne c1) c2 (fun w => absurd w (by decide))
  · exact fin 2 o (lm_x2 hst hne c1 c2) c3 (fun w => absurd w (by decide))
  · exact fin 0 b.toInt64 (lm_a hne c1 c2 c3 c5) c4 (fun _ => rfl)
