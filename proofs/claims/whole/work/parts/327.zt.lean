/-! ===== steps towards any end (for bodies that throw) ===== -/
def ZT (G : zG) (X : zX) (Qt : State → Prop) (pc : Nat) (lv : List (Option Value)) (st : List Value) (M : zM) : Prop :=
  ∀ (H : Heap) (locs : List Loc) (ls : Array Slot), zL G ls X.2.2.2.2.2.2.2.2.2.maxLocals lv → zR G M H → va_S (zA G) X.2.2.2.2.1.heap H locs →
    W X.1 X.2.1 X.2.2.1 X.2.2.2.1 X.2.2.2.2.1 X.2.2.2.2.2.1 X.2.2.2.2.2.2.1 X.2.2.2.2.2.2.2.1 X.2.2.2.2.2.2.2.2.1 X.2.2.2.2.2.2.2.2.2 H locs 0 0 Qt (F0 X.2.2.2.2.2.1 pc ls (st.map (zrv G.2.2)))
/-- as zC, in a room of any cells -/
def zCx (G : zG) (X : zX) (cc : ByteArray) (nL : Nat) (own : String) (d : Nat) : Prop :=
  X.1.tables.exec = Jvm.exec ∧ X.2.2.2.2.2.2.2.2.2.code = cc ∧ X.2.2.2.2.2.2.2.2.2.maxLocals = nL ∧ X.2.2.2.2.1.vm.findClass own = some X.2.2.2.2.2.1.cls ∧ (∀ w ∈ zWS, w.before X.2.2.2.2.2.2.1 X.2.2.2.2.1 = true) ∧ va_K G.1 vwCl (ztys G) X.2.2.2.2.1 ∧ zInj G ∧ (X.2.2.2.1.frames = d ∧ X.2.2.2.1.locals = 40 * d) ∧ zNest G X.2.2.2.2.1 ∧ zStat G X.2.2.2.2.1 X.2.2.2.2.1.heap
section ZTR
variable {G : zG} {X : zX} {Qt : State → Prop} {cc : ByteArray} {nL dd pc : Nat} {own : String} {lv : List (Option Value)} {st : List Value} {M : zM}
theorem zt_aload_n (hX : zCx G X cc nL own dd) {k : Fin 4} {x : Nat} (d : decode cc pc = .ok (.aload_n k, 1)) (h : lv[(k : Nat)]? = some (some (.ref x))) (n : Nat) (hn : pc + 1 = n) (kk : ZT G X Qt n lv (.ref x :: st) M) : ZT G X Qt pc lv st M := by
  obtain ⟨p, l, e, R, s, m, args, below, meth, c⟩ := X
  subst hn
  intro H locs ls hl hR hS
  exact lv_aload_n hX.1 hX.2.1 d rfl (hl.2.2 _ _ h) (kk H locs ls hl hR hS)
theorem zt_iload_n (hX : zCx G X cc nL own dd) {k : Fin 4} {x : Int32} (d : decode cc pc = .ok (.iload_n k, 1)) (h : lv[(k : Nat)]? = some (some (.int x))) (n : Nat) (hn : pc + 1 = n) (kk : ZT G X Qt n lv (.int x :: st) M) : ZT G X Qt pc lv st M := by
  obtain ⟨p, l, e, R, s, m, args, below, meth, c⟩ := X
  subst hn
  intro H locs ls hl hR hS
  exact lv_iload_n hX.1 hX.2.1 d rfl (hl.2.2 _ _ h) (kk H locs ls hl hR hS)
theorem zt_if_ne (hX : zCx G X cc nL own dd) {x : Int32} {off : Int} (d : decode cc pc = .ok (.ifCond .ne off, 3)) (tgt n : Nat) (ht : (pc : Int) + off = (tgt : Int)) (hn : pc + 3 = n) (kt : ¬ x = 0 → ZT G X Qt tgt lv st M) (kf : x = 0 → ZT G X Qt n lv st M) : ZT G X Qt pc lv (.int x :: st) M := by
  obtain ⟨p, l, e, R, s, m, args, below, meth, c⟩ := X
  subst hn
  intro H locs ls hl hR hS
  exact lv_if_ne hX.1 hX.2.1 d ht (fun h => kt h H locs ls hl hR hS) (fun h => kf h H locs ls hl hR hS)
theorem zt_tabOut (hX : zCx G X cc nL own dd) {dflt lo hi : Int} {offs : Array Int} {len : Nat} {x : Int32} (d : decode cc pc = .ok (.tableswitch dflt lo hi offs, len)) (h : x.toInt < lo ∨ hi < x.toInt) (tgt : Nat) (ht : (pc : Int) + dflt = (tgt : Int)) (kk : ZT G X Qt tgt lv st M) : ZT G X Qt pc lv (.int x :: st) M := by
  obtain ⟨p, l, e, R, s, m, args, below, meth, c⟩ := X
  intro H locs ls hl hR hS
  exact lv_tableOut hX.1 hX.2.1 d h ht (kk H locs ls hl hR hS)
theorem zt_callV (hX : zCx G X cc nL own dd) {t : zT} {idx ci nf i d' : Nat} {ft : Nat → Option (Option Nat)} {As st0 : List Value} {Q' : Option Value → zM → Prop} (hv : zVok t) (hl : Cond.methodLink own idx t.1 ∈ zWS) (d : decode cc pc = .ok (.invokevirtual idx, 3)) (hs : zs i = .inl (ci, nf, ft)) (hc : (vwCl[ci]?).map (fun q => q.1) = some t.1.cls)
    (hC : Ct G d' t (.ref i :: As) M Q') (hd : d' + 1 ≤ dd) (hA : As.length = t.2.2.2.2) (hst : st0 = As.reverse ++ .ref i :: st) (hW : (st.map fun v => v.category).sum ≤ 8) (n : Nat) (hn : pc + 3 = n) (kk : ∀ r M', Q' r M' → ZT G X Qt n lv (r.toList ++ st) M') : ZT G X Qt pc lv st0 M := by
  obtain ⟨p, l, e, R, s, m, args, below, meth, c⟩ := X
  subst hn
  intro H locs ls hl' hR hS
  obtain ⟨hx, hb, hml, hown, hts, hK, hI, hRm, hN, hZ⟩ := hX
  dsimp only at hx hb hml hown hts hK hRm hN hZ
  obtain ⟨v1, v2, v3, v4, v5, v6⟩ := hv
  have hT : GoodIn zWS (wsV own idx t.1.cls t.1 (zw t)) := zgood (fun w hw => by
    rcases List.mem_append.mp hw with h | h
    · simp only [List.mem_cons, List.not_mem_nil, or_false] at h
      rcases h with rfl | rfl | rfl | rfl
      · exact hl
      · exact v1
      · exact v2
      · exact v3
    · exact zw_in v4 w h)
  have cw : CallW R s args own t.1.cls idx t.1 t.2.1 t.2.2.1 t.2.2.2.1 (zw t) (zr d') 0 0 t.2.2.2.2 := cwV t.2.2.2.2 hts hT rfl rfl rfl ⟨rfl, v5.1, v5.2.1, v5.2.2⟩ ⟨by show d' + 1 ≤ R.frames; omega, by show 8 + (t.2.2.1 + 11) + 40 * d' ≤ R.locals; omega⟩
  have hrec : ∃ cell : Cell, H[G.2.2 i]? = some cell ∧ cell.vm.isStatics = false ∧ s.vm.findClass t.1.cls = some cell.cls := by
    cases hq : vwCl[ci]? with
    | none => rw [hq] at hc; cases hc
    | some q =>
      rw [hq] at hc
      have : q.1 = t.1.cls := Option.some.inj hc
      rw [← this]
      exact va_recv hK hR hq (q0 := i) (by rw [zW_at G M (zs_lt hs), zcell_o hs])
  have run := va_runV (p := p) (l := l) (e := e) (R := R) (s := s) (m := m) (args := args) (below := below) (meth := meth) (c := c) (H := H) (locs := locs) (cells := 0) (slots := 0) (g := F0 m pc ls (st0.map (zrv G.2.2))) (rest := st.map (zrv G.2.2)) (As := As.map (zrv G.2.2)) (b := G.2.2 i) ⟨hx, hb, hml, hown, hts⟩ (hC l) cw ⟨zPc_blind G _ M, hrec, z_pre hK hI hN hZ hR hS (.ref i :: As)⟩ rfl (by rw [List.length_map]; exact hA) (show ls.size = nL by rw [hl'.1]; exact hml) (by
    show st0.map (zrv G.2.2) = _
    rw [hst]
    simp [zrv]) (lv_room (by rw [z_cat]; exact hW)) d ⟨Nat.zero_le _, Nat.zero_le _⟩
  intro T hTe XX
  obtain ⟨v, st₀, t', T', Lc, h0, X', hL, e1, e2, ⟨r, M', ho, hq, hR', hF⟩, go⟩ := run T hTe XX
  have hv' : v = r.map (zrv G.2.2) := by injection ho
  subst hv'
  obtain ⟨hz, hkp⟩ := hF
  rw [h0] at hz hkp
  have hS' : va_S (zA G) s.heap T'.heap (locs ++ Lc) := ⟨Nat.le_trans hS.1 (by rw [e1]; exact hz), fun q h1 h2 => by rw [e1, hkp q (Nat.lt_of_lt_of_le h1 hS.1) h2]; exact hS.2.1 q h1 h2, fun q hq => by
      rcases List.mem_append.mp hq with h | h
      · exact hS.2.2 q h
      · exact hL q h⟩
  have key := kk r M' hq T'.heap (locs ++ Lc) ls hl' (by rw [e1]; exact hR') hS'
  obtain ⟨t2, b1, b2⟩ := key T' rfl X'
  refine ⟨t2, go t2 ?_, b2⟩
  have e3 : (r.map (zrv G.2.2)).toList ++ st.map (zrv G.2.2) = (r.toList ++ st).map (zrv G.2.2) := by cases r <;> simp
  show Steps _ _ _ (T'.setTop (F0 m (pc + 3) ls ((r.map (zrv G.2.2)).toList ++ st.map (zrv G.2.2)))) t2
  rw [e3]
  exact b1
end ZTR
