/-! ===== the law's start ===== -/
theorem y_init {B : bG} {a0 : Nat} {p : Program} {l : Launch} {e : Env} {s : State} {m : MethodId} {args : Array Value} {below : List Frame} {meth : Method} {c : Code} {H : Heap} {locs : List Loc} {k n pc : Nat} {ls : Array Slot} {st : List Value} {ws : va_W} {Q : State → Prop} {t : zT} {idx b d' kc' ks' : Nat} {P' : va_W → Prop}
    (hx : p.tables.exec = Jvm.exec) (hb : c.code = code) (hml : c.maxLocals = 7) (hown : s.vm.findClass RL = some m.cls) (hts : ∀ w ∈ zWS, w.before args s = true) (hK : va_K B.1 vwCl (ztys (gB B)) s) (hN : bNst s) (hZ : bS s.heap.size a0 s s.heap) (hv : zIok t) (hl : Cond.methodLink RL idx t.1 ∈ zWS) (dd : decode code pc = .ok (.invokespecial idx, 3)) (hC : Cb B s.heap.size a0 d' kc' ks' t [.ref b] ws P') (hd : d' ≤ 100) (hA : 0 = t.2.2.2.2) (hk : k + kc' ≤ 601024) (hs : n + ks' ≤ 7293034) (hls : ls.size = 7) (hW : (st.map fun v => v.category).sum ≤ 8) (hP : va_P B.1 vwCl ws H) (hD : va_D (bA s.heap.size) ws) (hS : va_S (bA s.heap.size) s.heap H locs)
    (kk : ∀ (ws' : va_W) (H1 : Heap) (locs1 : List Loc), P' ws' → va_P B.1 vwCl ws' H1 → va_D (bA s.heap.size) ws' → va_S (bA s.heap.size) s.heap H1 locs1 → W p l e room_1 s m args below meth c H1 locs1 (k + kc') (n + ks') Q (F0 m (pc + 3) ls st)) : W p l e room_1 s m args below meth c H locs k n Q (F0 m pc ls (.ref b :: st)) := by
  obtain ⟨v1, v2, v3, v4, v5, v6, v7⟩ := hv
  have cw : CallB room_1 s args RL idx t.1 t.2.1 t.2.2.1 none (zw t) (bRm d' kc' ks') kc' ks' t.2.2.2.2 ∧ t.1.name = "<init>" ∧ (Cond.instanceMethod t.1).before args s = true := cwI t.2.2.2.2 hts (zgood (zw_in (by rw [v7]; exact v3))) (by unfold zw; rw [v7]) rfl rfl (hts _ v2) (hts _ hl) (hts _ v1) v6 ⟨v4.1, v4.2.1, v4.2.2⟩ ⟨by show d' + 1 ≤ 2048; omega, by show 8 + (t.2.2.1 + 11) + 40 * d' ≤ 84000; omega⟩
  exact zb_run (va_runI (p := p) (l := l) (e := e) (m := m) (below := below) (meth := meth) (c := c) (H := H) (locs := locs) (cells := k) (slots := n) (g := F0 m pc ls ([].reverse ++ .ref b :: st)) (rest := st) (As := []) (b := b) ⟨hx, hb, hml, hown, hts⟩ (hC l) cw ⟨bPc_blind B _ a0 _ ws, zb_pre hK hN hZ (Nat.le_refl _) hP hD hS _⟩ rfl hA (show ls.size = 7 from hls) rfl (lv_room hW) dd ⟨hk, hs⟩) hS kk
section YS
variable {B : bG} {h1 h2 o : Nat} {q1 q2 t : Nat → Nat} {F : Nat → Nat → Nat → Int32} {f : Nat → Nat → Int32} {H : Heap} {A : Nat → Prop} {R : va_W}
theorem zR_of (hP : va_P B.1 vwCl (cXA B h1 h2 q1 q2 F f ++ R) H) : zR (G0 B h1 h2 q1 q2 t) (M0 F f) H := by
  intro k q hq
  have hk : k < zN := by
    have := (List.getElem?_eq_some_iff.mp hq).1
    rw [zW_len] at this
    exact this
  rw [zW_at _ _ hk] at hq
  cases hq
  exact hP (m0p k) _ (zb_hw (m0_all k hk))
theorem zI_of0 (hD : va_D A (cXA B h1 h2 q1 q2 F f ++ R)) : zInj (G0 B h1 h2 q1 q2 t) := by
  intro i j hi hj h
  exact m0p_inj i hi j hj (hD.1 (m0p i) (m0p j) _ _ (zb_hw (m0_all (t := t) i hi)) (zb_hw (m0_all (t := t) j hj)) h)
theorem zA_of0 (hD : va_D A (cXA B h1 h2 q1 q2 F f ++ R)) (i : Nat) (hi : i < zN) : A ((G0 B h1 h2 q1 q2 t).2.2 i) :=
  hD.2 (m0p i) _ (zb_hw (m0_all (t := t) i hi))
theorem cXA_len : (cXA B h1 h2 q1 q2 F f).length = 142 := by
  unfold cXA
  rw [List.length_append]
  rfl
theorem z_o (c : Nat × va_E) : (cXA B h1 h2 q1 q2 F f ++ [c])[142]? = some c := by
  have := zb_hj (w := cXA B h1 h2 q1 q2 F f) (L := [c]) (j := 0) (c := c) rfl
  rwa [cXA_len] at this
theorem zN_of0 {c : Nat × va_E} (hD : va_D A (cXA B h1 h2 q1 q2 F f ++ [c])) (i : Nat) (hi : i < zN) : (G0 B h1 h2 q1 q2 t).2.2 i ≠ c.1 := by
  intro h
  have h1 := hD.1 (m0p i) 142 _ _ (zb_hw (m0_all (t := t) i hi)) (z_o c) h
  have h2 := m0p_lt i hi
  omega
end YS
theorem y_law7 {ls : Array Slot} {G : zG} {b h1 h2 o : Nat} (hl : lv_has ls 7 [(4, .int 0), (3, .ref o), (2, .ref h2), (1, .ref h1), (0, .ref b)]) (e0 : G.2.2 148 = b) (e1 : G.2.2 0 = h1) (e2 : G.2.2 98 = h2) (e3 : G.2.2 149 = o) : zL G ls 7 (lvL 0 none none) := by
  refine ⟨hl.1, hl.2.1, fun i v hv => ?_⟩
  have hi : i < 7 := (List.getElem?_eq_some_iff.mp hv).1
  subst e0 e1 e2 e3
  rcases (show i = 0 ∨ i = 1 ∨ i = 2 ∨ i = 3 ∨ i = 4 ∨ i = 5 ∨ i = 6 by omega) with rfl | rfl | rfl | rfl | rfl | rfl | rfl
  · cases hv
    exact hl.2.2 (0, _) (by simp)
  · cases hv
    exact hl.2.2 (1, _) (by simp)
  · cases hv
    exact hl.2.2 (2, _) (by simp)
  · cases hv
    exact hl.2.2 (3, _) (by simp)
  · cases hv
    exact hl.2.2 (4, .int 0) List.mem_cons_self
  · cases hv
  · cases hv
set_option maxHeartbeats 4000000 in
theorem whole_start {p : Program} {e : Env} {s : State} {m : MethodId} {below : List Frame} {meth : Method} {c : Code} (l : Launch) (hst : l.stackTraces = false) {b L : Nat} {xs : Nat → Int32} (hL : L ≤ 3072) (C0 : lw_At p s m meth c b L xs) : W p l e room_1 s m #[Value.ref b] below meth c s.heap [] 0 0 (lw_Z below #[Value.ref b] s) (entryFrame m ([Value.ref b] : List Value).toArray 7) := by
  obtain ⟨hx, hb, hr, hml, hown, hts, hX, hbl, hlocks, hgv⟩ := id C0
  have htz : ∀ w ∈ zWS, w.before #[Value.ref b] s = true := fun w hw => hts w (List.mem_filter.mp hw).1
  obtain ⟨B, hK⟩ := y_K htz
  obtain ⟨t0, s1, s2, hst0, hR0, hpx⟩ := y_given hts hgv
  have hN := y_nst hts
  have hZ : bS s.heap.size (t0 142) s s.heap := zStA.B (t := t0) (z0 := s.heap.size) hst0
  have hA : ∀ q : Nat, s.heap.size ≤ q → bA s.heap.size q := fun _ h => h
  have hS : va_S (bA s.heap.size) s.heap s.heap [] := va_S.rf
  have hP : va_P B.1 vwCl [] s.heap := fun k q h => by simp at h
  have hD : va_D (bA s.heap.size) [] := ⟨fun i j p q h => by simp at h, fun k q h => by simp at h⟩
  have hl := lv_entry ([.ref b]) (n := 7) (Nat.le_of_ble_eq_true rfl)
  rw [lg_entry_eq]
  generalize (lg_sl ([.ref b]) ++ List.replicate (7 - (lg_sl ([.ref b])).length) Slot.unset).toArray = ls at hl ⊢
  have hl : lv_has ls 7 [(0, .ref b)] := hl
  refine va_new (ci := 8) (C := RX9) (T := TX9) (N := 17) hx hb htz uX9 tyX9 tyX9_ok hown (htz _ ncL_8) (htz _ niX9) (htz _ naX9) hK hP hD hS hA rfl ndX9 (Nat.le_of_ble_eq_true rfl) (Nat.le_of_ble_eq_true rfl) dL_law_0 (fun h1 H hP hD hS => ?_)
  refine lv_dup hx hb dL_law_3 rfl ?_
  refine y_init hx hb hml hown htz hK hN hZ iX9 lL_17 dL_law_4 (bX9_init (w := [])) (by decide) rfl (Nat.le_of_ble_eq_true rfl) (Nat.le_of_ble_eq_true rfl) hl.1 (Nat.le_of_ble_eq_true rfl) hP hD hS (fun ws H locs hq hP hD hS => ?_)
  obtain ⟨q1, F, rfl⟩ := hq
  refine lv_astore_n (lv' := [(1, .ref h1), (0, .ref b)]) hx hb dL_law_7 rfl hl (by decide) rfl (fun ls hl => ?_)
  refine va_new (ci := 9) (C := RX10) (T := TX10) (N := 68) hx hb htz uX10 tyX10 tyX10_ok hown (htz _ ncL_18) (htz _ niX10) (htz _ naX10) hK hP hD hS hA rfl ndX10 (Nat.le_of_ble_eq_true rfl) (Nat.le_of_ble_eq_true rfl) dL_law_8 (fun h2 H hP hD hS => ?_)
  refine lv_dup hx hb dL_law_11 rfl ?_
  refine y_init hx hb hml hown htz hK hN hZ iX10 lL_20 dL_law_12 (bX10_init (w := cX9 B h1 q1 F)) (by decide) rfl (Nat.le_of_ble_eq_true rfl) (Nat.le_of_ble_eq_true rfl) hl.1 (Nat.le_of_ble_eq_true rfl) hP hD hS (fun ws H locs hq hP hD hS => ?_)
  obtain ⟨q2, f, rfl, hf⟩ := hq
  have hP : va_P B.1 vwCl (cXA B h1 h2 q1 q2 F f) H := hP
  have hD : va_D (bA s.heap.size) (cXA B h1 h2 q1 q2 F f) := hD
  refine lv_astore_n (lv' := [(2, .ref h2), (1, .ref h1), (0, .ref b)]) hx hb dL_law_15 rfl hl (by decide) rfl (fun ls hl => ?_)
  refine lv_iconst (v := 1) hx hb dL_law_16 (by decide) ?_
  refine va_newa (atype := .long) (a0 := (1, .inr (.inl (fun _ => 0)))) hx hb (htz _ zb_al) rfl hK hP hD hS hA (fun _ => rfl) (by decide) (N' := 1) (by decide) (Nat.le_of_ble_eq_true rfl) (Nat.le_of_ble_eq_true rfl) (Nat.le_of_ble_eq_true rfl) dL_law_17 (fun o cA H hK1 hP hD hS => ?_)
  have e3 : cA = B.2 3 := by
    have e1 : s.vm.findClass ("[" ++ (FieldType.long).toString) = some cA := (hK1.2 4 (cA, .long) rfl).2
    have e2 : s.vm.findClass ("[" ++ (FieldType.long).toString) = some (B.2 3) := (hK.2 3 _ rfl).2
    exact Option.some.inj (e1.symm.trans e2)
  subst e3
  refine lv_astore_n (lv' := [(3, .ref o), (2, .ref h2), (1, .ref h1), (0, .ref b)]) hx hb dL_law_19 rfl hl (by decide) rfl (fun ls hl => ?_)
  refine lv_iconst (v := 0) hx hb dL_law_20 (by decide) ?_
  refine lv_istore (lv' := [(4, .int 0), (3, .ref o), (2, .ref h2), (1, .ref h1), (0, .ref b)]) hx hb dL_law_21 hl (by decide) rfl (fun ls hl => ?_)
  obtain ⟨G, hG⟩ : ∃ G : zG, G = G0 B h1 h2 q1 q2 (fun i => if i = 148 then b else if i = 149 then o else t0 i) := ⟨_, rfl⟩
  have g148 : G.2.2 148 = b := by rw [hG]; rfl
  have g149 : G.2.2 149 = o := by rw [hG]; rfl
  have g0 : G.2.2 0 = h1 := by rw [hG]; rfl
  have g98 : G.2.2 98 = h2 := by rw [hG]; rfl
  have gI : zInj G := by rw [hG]; exact zI_of0 hD
  have gA : ∀ i, i < zN → s.heap.size ≤ G.2.2 i := fun i hi => by rw [hG]; exact zA_of0 hD i hi
  have gN : ∀ i, i < zN → G.2.2 i ≠ G.2.2 149 := fun i hi => by
    rw [g149, hG]
    exact zN_of0 hD i hi
  have go : s.heap.size ≤ G.2.2 149 := by
    rw [g149]
    exact hD.2 142 _ (z_o _)
  have gR : zR G (M0 F f) H := by rw [hG]; exact zR_of hP
  have gO : yO G 0 H := ⟨fun _ => 0, rfl, by
    rw [g149, hG]
    intro k q hq
    have hk : k < 1 := (List.getElem?_eq_some_iff.mp hq).1
    obtain rfl : k = 0 := by omega
    cases hq
    exact hP 142 _ (z_o _)⟩
  have hzA : ∀ q, zA G q → yA s q := fun q hq => by
    obtain ⟨i, hi, rfl⟩ := hq
    exact gA i hi
  have gt : ∀ i, 142 ≤ i → i ≤ 147 → G.2.2 i = t0 i := fun i h1 h2 => by
    rw [hG]
    show (if i < 142 then _ else if i = 148 then b else if i = 149 then o else t0 i) = t0 i
    rw [if_neg (by omega), if_neg (by omega), if_neg (by omega)]
  have gZ : zStat G s s.heap := zStA.G (hst0.go gt hzA)
  have gNe : zNest G s := ⟨hN.1, hN.2, by rw [gt 145 (by decide) (by decide)]; exact hR0⟩
  have gK : va_K G.1 vwCl (ztys G) s := by rw [hG]; exact hK
  have hY : yC G (p, l, e, s, m, below, meth, c) L xs := ⟨by rw [g148]; exact C0, gK, gI, gNe, gZ, gA, go, gN⟩
  have K := law_loop hY hL (law_man hY hst hpx) 512 (M0 F f) 0 143 8757 none none 0 (Rel_M0 hf) (by decide) (by omega) (by decide) (by decide)
  have K1 := K H locs ls (y_law7 hl g148 g0 g98 g149) gR gO hS
  rw [g148] at K1
  exact W.widen (Nat.le_of_ble_eq_true rfl) (Nat.le_of_ble_eq_true rfl) K1
