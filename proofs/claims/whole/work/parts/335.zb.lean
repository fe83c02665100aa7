/-! ===== constructors: what is made, what is called ===== -/
theorem bNst.warm {s U : State} (hW : s.WarmedH U.vm) (h : bNst s) : bNst U := ⟨fun q hq => va_Nw.warmF hW (h.1 q hq), fun q hq => va_Nw.warmM hW (h.2 q hq)⟩
theorem bS.go {z0 a0 : Nat} {s U : State} {H : Heap} {locs : List Loc} (h : bS z0 a0 s s.heap) (hS : va_S (bA z0) s.heap H locs) (hW : s.WarmedH U.vm) : bS z0 a0 U H :=
  ⟨(h.1.kept (fun q h1 h2 => hS.2.1 q h1 h2)).moved hW.alike, (h.2.kept (fun q h1 h2 => hS.2.1 q h1 h2)).moved hW.alike⟩
theorem zb_ow : Cond.instanceMethod Lib.objectInit ∈ zWS ∧ Cond.code Lib.objectInit ⟨#[0xb1]⟩ 1 none ∈ zWS := ⟨zin (by decide +kernel) rfl, zin (by decide +kernel) rfl⟩
theorem zb_ai : Cond.arrayClass .int ∈ zWS := zin (by decide +kernel) rfl
theorem zb_az : Cond.arrayClass .boolean ∈ zWS := zin (by decide +kernel) rfl
theorem zb_ab : Cond.arrayClass .byte ∈ zWS := zin (by decide +kernel) rfl
theorem zb_al : Cond.arrayClass .long ∈ zWS := zin (by decide +kernel) rfl
def zIok (t : zT) : Prop := Cond.instanceMethod t.1 ∈ zWS ∧ Cond.initialized t.1.cls ∈ zWS ∧ Cond.code t.1 t.2.1 t.2.2.1 none ∈ zWS ∧ (t.1.cls ≠ "java/lang/invoke/MethodHandle" ∧ t.1.cls ≠ "java/lang/invoke/VarHandle" ∧ (parseMethodDescriptor t.1.desc).map (fun d => d.parameters.length) = some t.2.2.2.2) ∧ t.2.2.1 ≤ 21 ∧ t.1.name = "<init>" ∧ t.2.2.2.1 = none
section ZBN
variable {B : bG} {z0 a0 : Nat} {X : zX} {P : va_W → Prop} {cc : ByteArray} {nL d kc ks pc k n : Nat} {own : String} {lv : List (Option Value)} {st : List Value} {ws : va_W}
theorem zb_objInit (hX : bC B z0 a0 X cc nL own d kc ks) {idx a : Nat} (hl : Cond.methodLink own idx Lib.objectInit ∈ zWS) (dd : decode cc pc = .ok (.invokespecial idx, 3)) (hd : 1 ≤ d) (hW : (st.map fun v => v.category).sum ≤ 8) (kk : ZB B z0 X P (pc + 3) lv st ws k n) : ZB B z0 X P pc lv (.ref a :: st) ws k n := by
  obtain ⟨p, l, e, R, s, m, args, below, meth, c⟩ := X
  intro H locs ls hl' hP hD hS
  obtain ⟨hx, hb, hml, hown, hts, hK, hlk, hrt, hRm, hN, hZ, hz⟩ := hX
  dsimp only at hRm
  subst hRm
  exact W.objInit hx hb hown (hts _ hl) (hts _ zb_ow.1) (hts _ zb_ow.2) (g := F0 m pc ls (.ref a :: st)) rfl hl'.1 rfl dd (show 1 ≤ d from hd) (show 2 * 0 + _ + 12 ≤ 40 * d by omega) (kk H locs ls hl' hP hD hS)
theorem zb_newa (hX : bC B z0 a0 X cc nL own d kc ks) {atype : ArrayType} {ty : FieldType} {t N : Nat} {nn : Int32} {a1 : vp_A} (hty : newarray.typeOf atype = ty) (htt : (ztys (gB B))[t]? = some (B.2 t, ty)) (hra : ∀ (U : State) (c : ClassId), va_RA U c ty → U.vm.findClass ("[" ++ ty.toString) = some c) (harr : Cond.arrayClass ty ∈ zWS) (ha : ∀ cA : ClassId, vp_cell cA a1 = arrV cA N (fun _ => defaultValue ty)) (hn : ¬ nn < 0) (hN : nn.toNatClampNeg = N) (hby : N * componentBytes ty ≤ 536870912) (hk : k + 1 ≤ kc) (hs : n + N ≤ ks) (dd : decode cc pc = .ok (.newarray atype, 2))
    (kk : ∀ q : Nat, ZB B z0 X P (pc + 2) lv (.ref q :: st) (ws ++ [(q, .inl (B.2 t, a1))]) (k + 1) (n + N)) : ZB B z0 X P pc lv (.int nn :: st) ws k n := by
  obtain ⟨p, l, e, R, s, m, args, below, meth, c⟩ := X
  intro H locs ls hl' hP hD hS
  obtain ⟨hx, hb, hml, hown, hts, hK, hlk, hrt, hRm, hN', hZ, hz⟩ := hX
  dsimp only at hRm
  subst hRm
  refine va_newa hx hb (by rw [hty]; exact hts _ harr) hty hK hP hD hS (fun q hq => Nat.le_trans hz hq) ha hn hN hby hk hs dd (fun q cA H1 hK1 hP1 hD1 hS1 => ?_)
  have e1 : s.vm.findClass ("[" ++ ty.toString) = some cA := hra s cA ((hK1.2 (ztys (gB B)).length (cA, ty) (by rw [List.getElem?_append_right (Nat.le_refl _), Nat.sub_self]; rfl)).2)
  have e2 : s.vm.findClass ("[" ++ ty.toString) = some (B.2 t) := hra s (B.2 t) (hK.2 t _ htt).2
  have e3 : cA = B.2 t := Option.some.inj (e1.symm.trans e2)
  subst e3
  exact kk q H1 locs ls hl' hP1 hD1 hS1
theorem zb_new (hX : bC B z0 a0 X cc nL own d kc ks) {C : String} {T : u_T} {N ci idx : Nat} {ty0 : Nat → FieldType} {fs : List Value} (hc : vwCl[ci]? = some (C, T, N)) (hu : ∀ w ∈ u_ws C T N, w ∈ zWS) (hty : ∀ k, k < N → parseFieldDescriptor (T k).2.2.1 = some (ty0 k)) (hcl : Cond.classLink own idx C ∈ zWS) (hinst : Cond.instantiable C N ∈ zWS) (hini : Cond.initialized C ∈ zWS) (hfs : ∀ j, j < N → defaultValue (ty0 j) = vp_V fs j) (hk : k + 1 ≤ kc) (hs : n + N ≤ ks) (dd : decode cc pc = .ok (.new idx, 3))
    (kk : ∀ q : Nat, ZB B z0 X P (pc + 3) lv (.ref q :: st) (ws ++ [(q, .inr (ci, fs))]) (k + 1) (n + N)) : ZB B z0 X P pc lv st ws k n := by
  obtain ⟨p, l, e, R, s, m, args, below, meth, c⟩ := X
  intro H locs ls hl' hP hD hS
  obtain ⟨hx, hb, hml, hown, hts, hK, hlk, hrt, hRm, hN', hZ, hz⟩ := hX
  dsimp only at hRm
  subst hRm
  exact va_new hx hb hts hu ty0 hty hown (hts _ hcl) (hts _ hinst) (hts _ hini) hK hP hD hS (fun q hq => Nat.le_trans hz hq) hc hfs hk hs dd (fun q H1 hP1 hD1 hS1 => kk q H1 locs ls hl' hP1 hD1 hS1)
theorem zb_pre {s : State} {H : Heap} {locs : List Loc} (hK : va_K B.1 vwCl (ztys (gB B)) s) (hN : bNst s) (hZ : bS z0 a0 s s.heap) (hz : z0 ≤ s.heap.size) (hP : va_P B.1 vwCl ws H) (hD : va_D (bA z0) ws) (hS : va_S (bA z0) s.heap H locs) (av : List Value) : ∀ U : State, U.heap = H → s.WarmedH U.vm → bPc B z0 a0 av ws av.toArray U := by
  intro U hU hW
  exact ⟨rfl, by rw [hU]; exact hP, hD, va_K.moved hW.alike hK, hN.warm hW, by rw [hU]; exact hZ.go hS hW, by rw [hU]; exact Nat.le_trans hz hS.1⟩
theorem zb_run {p : Program} {l : Launch} {e : Env} {R : Room} {s : State} {m : MethodId} {args : Array Value} {below : List Frame} {meth : Method} {c : Code} {H : Heap} {locs : List Loc} {ls : Array Slot} {st0 : List Value} {P' : va_W → Prop} {kc' ks' : Nat} {av : Array Value}
    (run : va_Run p l e R s m args below meth c H locs k n kc' ks' (F0 m pc ls st0) st (bQc B z0 P' av) (bA z0)) (hS : va_S (bA z0) s.heap H locs) {Qf : State → Prop}
    (kk : ∀ (ws' : va_W) (H1 : Heap) (locs1 : List Loc), P' ws' → va_P B.1 vwCl ws' H1 → va_D (bA z0) ws' → va_S (bA z0) s.heap H1 locs1 → W p l e R s m args below meth c H1 locs1 (k + kc') (n + ks') Qf (F0 m (pc + 3) ls st)) : W p l e R s m args below meth c H locs k n Qf (F0 m pc ls st0) := by
  intro T hTe XX
  obtain ⟨v, st₀, t', T', Lc, h0, X', hL, e1, e2, ⟨ho, ws', hq, hP', hD', hF⟩, go⟩ := run T hTe XX
  have hv' : v = none := by injection ho
  subst hv'
  obtain ⟨hz, hkp⟩ := hF
  rw [h0] at hz hkp
  have hS' : va_S (bA z0) s.heap T'.heap (locs ++ Lc) := ⟨Nat.le_trans hS.1 (by rw [e1]; exact hz), fun q h1 h2 => by rw [e1, hkp q (Nat.lt_of_lt_of_le h1 hS.1) h2]; exact hS.2.1 q h1 h2, fun q hq => by
      rcases List.mem_append.mp hq with h | h
      · exact hS.2.2 q h
      · exact hL q h⟩
  obtain ⟨t2, b1, b2⟩ := kk ws' T'.heap (locs ++ Lc) hq (by rw [e1]; exact hP') hD' hS' T' rfl X'
  exact ⟨t2, go t2 b1, b2⟩
theorem zb_callI (hX : bC B z0 a0 X cc nL own d kc ks) {t : zT} {idx b d' kc' ks' : Nat} {As st0 : List Value} {P' : va_W → Prop} (hv : zIok t) (hl : Cond.methodLink own idx t.1 ∈ zWS) (dd : decode cc pc = .ok (.invokespecial idx, 3)) (hC : Cb B z0 a0 d' kc' ks' t (.ref b :: As) ws P') (hd : d' + 1 ≤ d) (hA : As.length = t.2.2.2.2) (hst : st0 = As.reverse ++ .ref b :: st) (hW : (st.map fun v => v.category).sum ≤ 8) (hk : k + kc' ≤ kc) (hs : n + ks' ≤ ks)
    (kk : ∀ ws', P' ws' → ZB B z0 X P (pc + 3) lv st ws' (k + kc') (n + ks')) : ZB B z0 X P pc lv st0 ws k n := by
  obtain ⟨p, l, e, R, s, m, args, below, meth, c⟩ := X
  subst hst
  intro H locs ls hl' hP hD hS
  obtain ⟨hx, hb, hml, hown, hts, hK, hlk, hrt, hRm, hN', hZ, hz⟩ := hX
  dsimp only at hRm
  subst hRm
  obtain ⟨v1, v2, v3, v4, v5, v6, v7⟩ := hv
  have cw : CallB (bRm d kc ks) s args own idx t.1 t.2.1 t.2.2.1 none (zw t) (bRm d' kc' ks') kc' ks' t.2.2.2.2 ∧ t.1.name = "<init>" ∧ (Cond.instanceMethod t.1).before args s = true := cwI t.2.2.2.2 hts (zgood (zw_in (by rw [v7]; exact v3))) (by unfold zw; rw [v7]) rfl rfl (hts _ v2) (hts _ hl) (hts _ v1) v6 ⟨v4.1, v4.2.1, v4.2.2⟩ ⟨hd, by show 8 + (t.2.2.1 + 11) + 40 * d' ≤ 40 * d; omega⟩
  refine zb_run (va_runI (p := p) (l := l) (e := e) (m := m) (below := below) (meth := meth) (c := c) (H := H) (locs := locs) (cells := k) (slots := n) (g := F0 m pc ls (As.reverse ++ .ref b :: st)) (rest := st) (As := As) (b := b) ⟨hx, hb, hml, hown, hts⟩ (hC l) cw ⟨bPc_blind B z0 a0 _ ws, zb_pre hK hN' hZ hz hP hD hS _⟩ rfl hA (show ls.size = nL by rw [hl'.1]; exact hml) rfl (lv_room hW) dd ⟨hk, hs⟩) hS (fun ws' H1 locs1 hq hP1 hD1 hS1 => kk ws' hq H1 locs1 ls hl' hP1 hD1 hS1)
theorem zb_callIN (hX : bC B z0 a0 X cc nL own d kc ks) {t : zT} {idx b d' kc' ks' : Nat} {host : String} {As st0 : List Value} {P' : va_W → Prop} (hv : zIok t) (hl : (own, idx, t.1, host) ∈ zNMl) (dd : decode cc pc = .ok (.invokespecial idx, 3)) (hC : Cb B z0 a0 d' kc' ks' t (.ref b :: As) ws P') (hd : d' + 1 ≤ d) (hA : As.length = t.2.2.2.2) (hst : st0 = As.reverse ++ .ref b :: st) (hW : (st.map fun v => v.category).sum ≤ 8) (hk : k + kc' ≤ kc) (hs : n + ks' ≤ ks)
    (kk : ∀ ws', P' ws' → ZB B z0 X P (pc + 3) lv st ws' (k + kc') (n + ks')) : ZB B z0 X P pc lv st0 ws k n := by
  obtain ⟨p, l, e, R, s, m, args, below, meth, c⟩ := X
  subst hst
  intro H locs ls hl' hP hD hS
  obtain ⟨hx, hb, hml, hown, hts, hK, hlk, hrt, hRm, hN', hZ, hz⟩ := hX
  dsimp only at hRm
  subst hRm
  obtain ⟨v1, v2, v3, v4, v5, v6, v7⟩ := hv
  have cw : va_CN (bRm d kc ks) s args own idx t.1 host t.2.1 t.2.2.1 none (zw t) (bRm d' kc' ks') kc' ks' t.2.2.2.2 := va_cnB t.2.2.2.2 hts (zgood (zw_in (by rw [v7]; exact v3))) (by unfold zw; rw [v7]) rfl rfl (hN'.2 _ hl) (hts _ v2) ⟨v4.1, v4.2.1, v4.2.2⟩ ⟨hd, by show 8 + (t.2.2.1 + 11) + 40 * d' ≤ 40 * d; omega⟩
  refine zb_run (va_runIN (p := p) (l := l) (e := e) (m := m) (below := below) (meth := meth) (c := c) (H := H) (locs := locs) (cells := k) (slots := n) (g := F0 m pc ls (As.reverse ++ .ref b :: st)) (rest := st) (As := As) (b := b) ⟨hx, hb, hml, hown, hts⟩ (hC l) ⟨cw, v6, hts _ v1⟩ ⟨bPc_blind B z0 a0 _ ws, zb_pre hK hN' hZ hz hP hD hS _⟩ rfl hA (show ls.size = nL by rw [hl'.1]; exact hml) rfl (lv_room hW) dd ⟨hk, hs⟩) hS (fun ws' H1 locs1 hq hP1 hD1 hS1 => kk ws' hq H1 locs1 ls hl' hP1 hD1 hS1)
theorem zb_callV (hX : bC B z0 a0 X cc nL own d kc ks) {t : zT} {idx b d' kc' ks' ci q0 : Nat} {fs As st0 : List Value} {P' : va_W → Prop} (hv : zVok t) (ht : t.2.2.2.1 = none) (hl : Cond.methodLink own idx t.1 ∈ zWS) (dd : decode cc pc = .ok (.invokevirtual idx, 3)) (he : ws[q0]? = some (b, .inr (ci, fs))) (hc : (vwCl[ci]?).map (fun q => q.1) = some t.1.cls) (hC : Cb B z0 a0 d' kc' ks' t (.ref b :: As) ws P') (hd : d' + 1 ≤ d) (hA : As.length = t.2.2.2.2) (hst : st0 = As.reverse ++ .ref b :: st) (hW : (st.map fun v => v.category).sum ≤ 8) (hk : k + kc' ≤ kc) (hs : n + ks' ≤ ks)
    (kk : ∀ ws', P' ws' → ZB B z0 X P (pc + 3) lv st ws' (k + kc') (n + ks')) : ZB B z0 X P pc lv st0 ws k n := by
  obtain ⟨p, l, e, R, s, m, args, below, meth, c⟩ := X
  subst hst
  intro H locs ls hl' hP hD hS
  obtain ⟨hx, hb, hml, hown, hts, hK, hlk, hrt, hRm, hN', hZ, hz⟩ := hX
  dsimp only at hRm
  subst hRm
  obtain ⟨v1, v2, v3, v4, v5, v6⟩ := hv
  have hT : GoodIn zWS (wsV own idx t.1.cls t.1 (zw t)) := zgood (fun w hw => by
    rcases List.mem_append.mp hw with h | h
    · simp only [List.mem_cons, List.not_mem_nil, or_false] at h
      rcases h with rfl | rfl | rfl | rfl
      · exact hl
      · exact v1
      · exact v2
      · exact v3
    · exact zw_in v4 w h)
  have cw : CallW (bRm d kc ks) s args own t.1.cls idx t.1 t.2.1 t.2.2.1 t.2.2.2.1 (zw t) (bRm d' kc' ks') kc' ks' t.2.2.2.2 := cwV t.2.2.2.2 hts hT rfl rfl rfl ⟨rfl, v5.1, v5.2.1, v5.2.2⟩ ⟨hd, by show 8 + (t.2.2.1 + 11) + 40 * d' ≤ 40 * d; omega⟩
  have hrec : ∃ cell : Cell, H[b]? = some cell ∧ cell.vm.isStatics = false ∧ s.vm.findClass t.1.cls = some cell.cls := by
    cases hq : vwCl[ci]? with
    | none => rw [hq] at hc; cases hc
    | some q =>
      rw [hq] at hc
      have : q.1 = t.1.cls := Option.some.inj hc
      rw [← this]
      exact va_recv hK hP hq (q0 := q0) he
  refine zb_run (va_runV (p := p) (l := l) (e := e) (m := m) (below := below) (meth := meth) (c := c) (H := H) (locs := locs) (cells := k) (slots := n) (g := F0 m pc ls (As.reverse ++ .ref b :: st)) (rest := st) (As := As) (b := b) ⟨hx, hb, hml, hown, hts⟩ (hC l) cw ⟨bPc_blind B z0 a0 _ ws, hrec, zb_pre hK hN' hZ hz hP hD hS _⟩ rfl hA (show ls.size = nL by rw [hl'.1]; exact hml) rfl (lv_room hW) dd ⟨hk, hs⟩) hS (fun ws' H1 locs1 hq hP1 hD1 hS1 => kk ws' hq H1 locs1 ls hl' hP1 hD1 hS1)
end ZBN
