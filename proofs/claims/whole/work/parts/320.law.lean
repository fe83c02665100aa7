/-! ===== the law's own steps: its judgement ===== -/
abbrev zY : Type := Program × Launch × Env × State × MethodId × List Frame × Method × Code
def yA (s : State) : Nat → Prop := fun q => s.heap.size ≤ q
/-- the id 148 is the script, 149 the row of one long that the law makes -/
def yC (G : zG) (Y : zY) (L : Nat) (xs : Nat → Int32) : Prop :=
  lw_At Y.1 Y.2.2.2.1 Y.2.2.2.2.1 Y.2.2.2.2.2.2.1 Y.2.2.2.2.2.2.2 (G.2.2 148) L xs ∧ va_K G.1 vwCl (ztys G) Y.2.2.2.1 ∧ zInj G ∧ zNest G Y.2.2.2.1 ∧ zStat G Y.2.2.2.1 Y.2.2.2.1.heap ∧ (∀ i, i < zN → Y.2.2.2.1.heap.size ≤ G.2.2 i) ∧ Y.2.2.2.1.heap.size ≤ G.2.2 149 ∧ (∀ i, i < zN → G.2.2 i ≠ G.2.2 149)
def yO (G : zG) (o : Int64) (H : Heap) : Prop := ∃ f : Nat → Int64, f 0 = o ∧ va_P G.1 vwCl [(G.2.2 149, .inl (G.2.1 3, 1, .inr (.inl f)))] H
def ZL (G : zG) (Y : zY) (k n : Nat) (pc : Nat) (lv : List (Option Value)) (st : List Value) (M : zM) (o : Int64) : Prop :=
  ∀ (H : Heap) (locs : List Loc) (ls : Array Slot), zL G ls 7 lv → zR G M H → yO G o H → va_S (yA Y.2.2.2.1) Y.2.2.2.1.heap H locs →
    W Y.1 Y.2.1 Y.2.2.1 room_1 Y.2.2.2.1 Y.2.2.2.2.1 #[Value.ref (G.2.2 148)] Y.2.2.2.2.2.1 Y.2.2.2.2.2.2.1 Y.2.2.2.2.2.2.2 H locs k n
      (lw_Z Y.2.2.2.2.2.1 #[Value.ref (G.2.2 148)] Y.2.2.2.1) (F0 Y.2.2.2.2.1 pc ls (st.map (zrv G.2.2)))
section YR
variable {G : zG} {Y : zY} {L : Nat} {xs : Nat → Int32} {k n pc : Nat} {lv : List (Option Value)} {st : List Value} {M : zM} {o : Int64}
theorem y_widen {k' n' : Nat} (h1 : k ≤ k') (h2 : n ≤ n') (kk : ZL G Y k' n' pc lv st M o) : ZL G Y k n pc lv st M o := by
  intro H locs ls hl hR hO hS
  exact W.widen h1 h2 (kk H locs ls hl hR hO hS)
theorem y_aload_n (hY : yC G Y L xs) {j : Fin 4} {x : Nat} (d : decode code pc = .ok (.aload_n j, 1)) (h : lv[(j : Nat)]? = some (some (.ref x))) (q : Nat) (hn : pc + 1 = q) (kk : ZL G Y k n q lv (.ref x :: st) M o) : ZL G Y k n pc lv st M o := by
  obtain ⟨p, l, e, s, m, below, meth, c⟩ := Y
  subst hn
  intro H locs ls hl hR hO hS
  exact lv_aload_n hY.1.1 hY.1.2.1 d rfl (hl.2.2 _ _ h) (kk H locs ls hl hR hO hS)
theorem y_iload (hY : yC G Y L xs) {j : Nat} {x : Int32} (d : decode code pc = .ok (.iload j, 2)) (h : lv[j]? = some (some (.int x))) (q : Nat) (hn : pc + 2 = q) (kk : ZL G Y k n q lv (.int x :: st) M o) : ZL G Y k n pc lv st M o := by
  obtain ⟨p, l, e, s, m, below, meth, c⟩ := Y
  subst hn
  intro H locs ls hl hR hO hS
  exact lv_iload hY.1.1 hY.1.2.1 d (hl.2.2 _ _ h) (kk H locs ls hl hR hO hS)
theorem y_istore (hY : yC G Y L xs) {j : Nat} {x : Int32} (d : decode code pc = .ok (.istore j, 2)) (hj : j < 7) (q : Nat) (hn : pc + 2 = q) (kk : ZL G Y k n q (zp1 lv j (.int x)) st M o) : ZL G Y k n pc lv (.int x :: st) M o := by
  obtain ⟨p, l, e, s, m, below, meth, c⟩ := Y
  subst hn
  intro H locs ls hl hR hO hS
  exact lv_istore hY.1.1 hY.1.2.1 d (zpairs_has hl) hj rfl (fun ls' h' => kk H locs ls' (zL_put1 h') hR hO hS)
theorem y_iinc (hY : yC G Y L xs) {i : Nat} {j : Int} {x v : Int32} (d : decode code pc = .ok (.iinc i j, 3)) (h : lv[i]? = some (some (.int x))) (hv : x + Int32.ofInt j = v) (hi : i < 7) (q : Nat) (hn : pc + 3 = q) (kk : ZL G Y k n q (zp1 lv i (.int v)) st M o) : ZL G Y k n pc lv st M o := by
  obtain ⟨p, l, e, s, m, below, meth, c⟩ := Y
  subst hn
  intro H locs ls hl hR hO hS
  obtain ⟨r, hr⟩ := List.getElem?_of_mem (zpairs_mem (G := G) h)
  exact lv_iinc hY.1.1 hY.1.2.1 d (zpairs_has hl) (k := r) hr hv hi rfl (fun ls' h' => kk H locs ls' (zL_put1 h') hR hO hS)
theorem y_iconst (hY : yC G Y L xs) {j : Int} {v : Int32} (d : decode code pc = .ok (.iconst j, 1)) (hv : Int32.ofInt j = v) (q : Nat) (hn : pc + 1 = q) (kk : ZL G Y k n q lv (.int v :: st) M o) : ZL G Y k n pc lv st M o := by
  obtain ⟨p, l, e, s, m, below, meth, c⟩ := Y
  subst hn
  intro H locs ls hl hR hO hS
  exact lv_iconst hY.1.1 hY.1.2.1 d hv (kk H locs ls hl hR hO hS)
theorem y_bipush (hY : yC G Y L xs) {j : Int} {v : Int32} (d : decode code pc = .ok (.bipush j, 2)) (hv : (Int8.ofInt j).toInt32 = v) (q : Nat) (hn : pc + 2 = q) (kk : ZL G Y k n q lv (.int v :: st) M o) : ZL G Y k n pc lv st M o := by
  obtain ⟨p, l, e, s, m, below, meth, c⟩ := Y
  subst hn
  intro H locs ls hl hR hO hS
  exact lv_bipush hY.1.1 hY.1.2.1 d hv (kk H locs ls hl hR hO hS)
theorem y_iadd (hY : yC G Y L xs) {x y : Int32} (d : decode code pc = .ok (.iadd, 1)) (q : Nat) (hn : pc + 1 = q) (kk : ZL G Y k n q lv (.int (x + y) :: st) M o) : ZL G Y k n pc lv (.int y :: .int x :: st) M o := by
  obtain ⟨p, l, e, s, m, below, meth, c⟩ := Y
  subst hn
  intro H locs ls hl hR hO hS
  exact lv_iadd hY.1.1 hY.1.2.1 d (kk H locs ls hl hR hO hS)
theorem y_isub (hY : yC G Y L xs) {x y : Int32} (d : decode code pc = .ok (.isub, 1)) (q : Nat) (hn : pc + 1 = q) (kk : ZL G Y k n q lv (.int (x - y) :: st) M o) : ZL G Y k n pc lv (.int y :: .int x :: st) M o := by
  obtain ⟨p, l, e, s, m, below, meth, c⟩ := Y
  subst hn
  intro H locs ls hl hR hO hS
  exact lv_isub hY.1.1 hY.1.2.1 d (kk H locs ls hl hR hO hS)
theorem y_iand (hY : yC G Y L xs) {x y : Int32} (d : decode code pc = .ok (.iand, 1)) (q : Nat) (hn : pc + 1 = q) (kk : ZL G Y k n q lv (.int (x &&& y) :: st) M o) : ZL G Y k n pc lv (.int y :: .int x :: st) M o := by
  obtain ⟨p, l, e, s, m, below, meth, c⟩ := Y
  subst hn
  intro H locs ls hl hR hO hS
  exact lv_iand hY.1.1 hY.1.2.1 d (kk H locs ls hl hR hO hS)
theorem y_i2l (hY : yC G Y L xs) {x : Int32} (d : decode code pc = .ok (.i2l, 1)) (q : Nat) (hn : pc + 1 = q) (kk : ZL G Y k n q lv (.long x.toInt64 :: st) M o) : ZL G Y k n pc lv (.int x :: st) M o := by
  obtain ⟨p, l, e, s, m, below, meth, c⟩ := Y
  subst hn
  intro H locs ls hl hR hO hS
  exact lv_i2l hY.1.1 hY.1.2.1 d rfl (kk H locs ls hl hR hO hS)
theorem y_lcmp (hY : yC G Y L xs) {x y : Int64} (d : decode code pc = .ok (.lcmp, 1)) (q : Nat) (hn : pc + 1 = q) (kk : ZL G Y k n q lv (.int (lg_cmp x y) :: st) M o) : ZL G Y k n pc lv (.long y :: .long x :: st) M o := by
  obtain ⟨p, l, e, s, m, below, meth, c⟩ := Y
  subst hn
  intro H locs ls hl hR hO hS
  exact W.lcmp hY.1.1 hY.1.2.1 d (kk H locs ls hl hR hO hS)
theorem y_icmp_eq (hY : yC G Y L xs) {x y : Int32} {off : Int} (d : decode code pc = .ok (.if_icmp .eq off, 3)) (tgt q : Nat) (ht : (pc : Int) + off = (tgt : Int)) (hn : pc + 3 = q) (kt : x = y → ZL G Y k n tgt lv st M o) (kf : ¬ x = y → ZL G Y k n q lv st M o) : ZL G Y k n pc lv (.int y :: .int x :: st) M o := by
  obtain ⟨p, l, e, s, m, below, meth, c⟩ := Y
  subst hn
  intro H locs ls hl hR hO hS
  exact lv_icmp_eq hY.1.1 hY.1.2.1 d ht (fun h => kt h H locs ls hl hR hO hS) (fun h => kf h H locs ls hl hR hO hS)
theorem y_icmp_gt (hY : yC G Y L xs) {x y : Int32} {off : Int} (d : decode code pc = .ok (.if_icmp .gt off, 3)) (tgt q : Nat) (ht : (pc : Int) + off = (tgt : Int)) (hn : pc + 3 = q) (kt : y < x → ZL G Y k n tgt lv st M o) (kf : ¬ y < x → ZL G Y k n q lv st M o) : ZL G Y k n pc lv (.int y :: .int x :: st) M o := by
  obtain ⟨p, l, e, s, m, below, meth, c⟩ := Y
  subst hn
  intro H locs ls hl hR hO hS
  exact lv_icmp_gt hY.1.1 hY.1.2.1 d ht (fun h => kt h H locs ls hl hR hO hS) (fun h => kf h H locs ls hl hR hO hS)
theorem y_if_eq (hY : yC G Y L xs) {x : Int32} {off : Int} (d : decode code pc = .ok (.ifCond .eq off, 3)) (tgt q : Nat) (ht : (pc : Int) + off = (tgt : Int)) (hn : pc + 3 = q) (kt : x = 0 → ZL G Y k n tgt lv st M o) (kf : ¬ x = 0 → ZL G Y k n q lv st M o) : ZL G Y k n pc lv (.int x :: st) M o := by
  obtain ⟨p, l, e, s, m, below, meth, c⟩ := Y
  subst hn
  intro H locs ls hl hR hO hS
  exact lv_if_eq hY.1.1 hY.1.2.1 d ht (fun h => kt h H locs ls hl hR hO hS) (fun h => kf h H locs ls hl hR hO hS)
theorem y_if_ne (hY : yC G Y L xs) {x : Int32} {off : Int} (d : decode code pc = .ok (.ifCond .ne off, 3)) (tgt q : Nat) (ht : (pc : Int) + off = (tgt : Int)) (hn : pc + 3 = q) (kt : ¬ x = 0 → ZL G Y k n tgt lv st M o) (kf : x = 0 → ZL G Y k n q lv st M o) : ZL G Y k n pc lv (.int x :: st) M o := by
  obtain ⟨p, l, e, s, m, below, meth, c⟩ := Y
  subst hn
  intro H locs ls hl hR hO hS
  exact lv_if_ne hY.1.1 hY.1.2.1 d ht (fun h => kt h H locs ls hl hR hO hS) (fun h => kf h H locs ls hl hR hO hS)
theorem y_goto (hY : yC G Y L xs) {off : Int} (d : decode code pc = .ok (.goto off, 3)) (tgt : Nat) (ht : (pc : Int) + off = (tgt : Int)) (kk : ZL G Y k n tgt lv st M o) : ZL G Y k n pc lv st M o := by
  obtain ⟨p, l, e, s, m, below, meth, c⟩ := Y
  intro H locs ls hl hR hO hS
  exact lv_goto hY.1.1 hY.1.2.1 d ht (kk H locs ls hl hR hO hS)
theorem y_tabIn (hY : yC G Y L xs) {dflt lo hi : Int} {offs : Array Int} {len : Nat} {x : Int32} {off : Int} (d : decode code pc = .ok (.tableswitch dflt lo hi offs, len)) (h1 : ¬ x.toInt < lo) (h2 : ¬ hi < x.toInt) (ho : offs[(x.toInt - lo).toNat]? = some off) (tgt : Nat) (ht : (pc : Int) + off = (tgt : Int)) (kk : ZL G Y k n tgt lv st M o) : ZL G Y k n pc lv (.int x :: st) M o := by
  obtain ⟨p, l, e, s, m, below, meth, c⟩ := Y
  intro H locs ls hl hR hO hS
  exact lv_tableIn hY.1.1 hY.1.2.1 d h1 h2 ho ht (kk H locs ls hl hR hO hS)
theorem y_tabOut (hY : yC G Y L xs) {dflt lo hi : Int} {offs : Array Int} {len : Nat} {x : Int32} (d : decode code pc = .ok (.tableswitch dflt lo hi offs, len)) (h : x.toInt < lo ∨ hi < x.toInt) (tgt : Nat) (ht : (pc : Int) + dflt = (tgt : Int)) (kk : ZL G Y k n tgt lv st M o) : ZL G Y k n pc lv (.int x :: st) M o := by
  obtain ⟨p, l, e, s, m, below, meth, c⟩ := Y
  intro H locs ls hl hR hO hS
  exact lv_tableOut hY.1.1 hY.1.2.1 d h ht (kk H locs ls hl hR hO hS)
/-- the script -/
theorem y_sld (hY : yC G Y L xs) {i : Int32} (d : decode code pc = .ok (.iaload, 1)) (hi : vp_in i L) (q : Nat) (hn : pc + 1 = q) (kk : ZL G Y k n q lv (.int (xs i.toNatClampNeg) :: st) M o) : ZL G Y k n pc lv (.int i :: .ref 148 :: st) M o := by
  obtain ⟨p, l, e, s, m, below, meth, c⟩ := Y
  subst hn
  intro H locs ls hl hR hO hS
  have hAt := hY.1
  obtain ⟨hx, hb, hr, hml, hown, hts, hX, hbl, hlk, hg⟩ := hAt
  exact va_sld hx hb hX hbl (show ¬ yA s (G.2.2 148) from fun w => Nat.not_le_of_lt hbl w) hS hi d (kk H locs ls hl hR hO hS)
theorem y_slen (hY : yC G Y L xs) (d : decode code pc = .ok (.arraylength, 1)) (q : Nat) (hn : pc + 1 = q) (kk : ZL G Y k n q lv (.int (Int32.ofNat L) :: st) M o) : ZL G Y k n pc lv (.ref 148 :: st) M o := by
  obtain ⟨p, l, e, s, m, below, meth, c⟩ := Y
  subst hn
  intro H locs ls hl hR hO hS
  have hAt := hY.1
  obtain ⟨hx, hb, hr, hml, hown, hts, hX, hbl, hlk, hg⟩ := hAt
  exact va_slen hx hb hX hbl (show ¬ yA s (G.2.2 148) from fun w => Nat.not_le_of_lt hbl w) hS d (kk H locs ls hl hR hO hS)
/-- the law's end -/
theorem y_ret1 (hY : yC G Y L xs) (hk : k ≤ 601024) (hn : n ≤ 7293034) (d : decode code pc = .ok (.ireturn, 1)) : ZL G Y k n pc lv [.int 1] M o := by
  obtain ⟨p, l, e, s, m, below, meth, c⟩ := Y
  intro H locs ls hl hR hO hS
  have hAt := hY.1
  obtain ⟨hx, hb, hr, hml, hown, hts, hX, hbl, hlk, hg⟩ := hAt
  refine va_forget (fun q hq => hS.2.2 q hq) ?_
  exact W.widen hk hn (lw_ret hx hb hr hlk d)
theorem yO_kept {H H1 : Heap} (hO : yO G o H) (h : H1[G.2.2 149]? = H[G.2.2 149]?) : yO G o H1 := by
  obtain ⟨f, h0, h1⟩ := hO
  refine ⟨f, h0, h1.kept (fun j q hq => ?_)⟩
  cases j with
  | zero => cases hq; exact h
  | succ j => cases hq
theorem yO_lt {H : Heap} (hO : yO G o H) : G.2.2 149 < H.size := by
  obtain ⟨f, h0, h1⟩ := hO
  exact (h1 0 _ rfl).lt
theorem y_pre {s : State} {H : Heap} {locs : List Loc} (hK : va_K G.1 vwCl (ztys G) s) (hI : zInj G) (hN : zNest G s) (hZ : zStat G s s.heap) (hR : zR G M H) (hS : va_S (yA s) s.heap H locs) (av : List Value) : ∀ U : State, U.heap = H → s.WarmedH U.vm → zPc G av M (av.map (zrv G.2.2)).toArray U := by
  intro U hU hW
  refine ⟨rfl, hI, by rw [hU]; exact hR, va_K.moved hW.alike hK, hN.warm hW, ?_⟩
  rw [hU]
  exact zStat.moved hW.alike (zStat.kept hZ (fun q h1 h2 => hS.2.1 q h1 (fun w => Nat.not_le_of_lt h1 w)))
/-- a call on one of the two objects -/
theorem y_callV (hY : yC G Y L xs) {t : zT} {idx ci nf i d' : Nat} {ft : Nat → Option (Option Nat)} {As st0 : List Value} {Q' : Option Value → zM → Prop} (hv : zVok t) (hl : Cond.methodLink RL idx t.1 ∈ zWS) (d : decode code pc = .ok (.invokevirtual idx, 3)) (hs : zs i = .inl (ci, nf, ft)) (hc : (vwCl[ci]?).map (fun q => q.1) = some t.1.cls)
    (hC : Ct G d' t (.ref i :: As) M Q') (hd : d' ≤ 400) (hA : As.length = t.2.2.2.2) (hst : st0 = As.reverse ++ .ref i :: st) (hW : (st.map fun v => v.category).sum ≤ 8) (hk : k ≤ 601024) (hn' : n ≤ 7293034) (q : Nat) (hn : pc + 3 = q) (kk : ∀ r M', Q' r M' → ZL G Y k n q lv (r.toList ++ st) M' o) : ZL G Y k n pc lv st0 M o := by
  obtain ⟨p, l, e, s, m, below, meth, c⟩ := Y
  subst hn
  intro H locs ls hl' hR hO hS
  obtain ⟨⟨hx, hb, hr, hml, hown, hts, hX, hbl, hlk, hg⟩, hK, hI, hN, hZ, hge, hge2, hne⟩ := hY
  dsimp only at hx hb hr hml hown hts hX hbl hlk hg hK hN hZ hge hge2
  have htz : ∀ w ∈ zWS, w.before #[Value.ref (G.2.2 148)] s = true := fun w hw => hts w (List.mem_filter.mp hw).1
  obtain ⟨v1, v2, v3, v4, v5, v6⟩ := hv
  have hT : GoodIn zWS (wsV RL idx t.1.cls t.1 (zw t)) := zgood (fun w hw => by
    rcases List.mem_append.mp hw with h | h
    · simp only [List.mem_cons, List.not_mem_nil, or_false] at h
      rcases h with rfl | rfl | rfl | rfl
      · exact hl
      · exact v1
      · exact v2
      · exact v3
    · exact zw_in v4 w h)
  have cw : CallW room_1 s #[Value.ref (G.2.2 148)] RL t.1.cls idx t.1 t.2.1 t.2.2.1 t.2.2.2.1 (zw t) (zr d') 0 0 t.2.2.2.2 := cwV t.2.2.2.2 htz hT rfl rfl rfl ⟨rfl, v5.1, v5.2.1, v5.2.2⟩ ⟨by show d' + 1 ≤ 2048; omega, by show 8 + (t.2.2.1 + 11) + 40 * d' ≤ 84000; omega⟩
  have hrec : ∃ cell : Cell, H[G.2.2 i]? = some cell ∧ cell.vm.isStatics = false ∧ s.vm.findClass t.1.cls = some cell.cls := by
    cases hq : vwCl[ci]? with
    | none => rw [hq] at hc; cases hc
    | some q =>
      rw [hq] at hc
      have : q.1 = t.1.cls := Option.some.inj hc
      rw [← this]
      exact va_recv hK hR hq (q0 := i) (by rw [zW_at G M (zs_lt hs), zcell_o hs])
  have run := va_runV (p := p) (l := l) (e := e) (R := room_1) (s := s) (m := m) (args := #[Value.ref (G.2.2 148)]) (below := below) (meth := meth) (c := c) (H := H) (locs := locs) (cells := k) (slots := n) (g := F0 m pc ls (st0.map (zrv G.2.2))) (rest := st.map (zrv G.2.2)) (As := As.map (zrv G.2.2)) (b := G.2.2 i) ⟨hx, hb, hml, hown, htz⟩ (hC l) cw ⟨zPc_blind G _ M, hrec, y_pre hK hI hN hZ hR hS (.ref i :: As)⟩ rfl (by rw [List.length_map]; exact hA) (show ls.size = 7 from hl'.1) (by
    show st0.map (zrv G.2.2) = _
    rw [hst]
    simp [zrv]) (lv_room (by rw [z_cat]; exact hW)) d ⟨by show k + 0 ≤ 601024; omega, by show n + 0 ≤ 7293034; omega⟩
  intro T hTe XX
  obtain ⟨v, st₀, t', T', Lc, h0, X', hL, e1, e2, ⟨r, M', ho, hq, hR', hF⟩, go⟩ := run T hTe XX
  have hv' : v = r.map (zrv G.2.2) := by injection ho
  subst hv'
  obtain ⟨hz, hkp⟩ := hF
  rw [h0] at hz hkp
  have nz : ∀ q, q < s.heap.size → ¬ zA G q := fun q h1 h2 => by
    obtain ⟨i', hi', rfl⟩ := h2
    exact Nat.not_le_of_lt h1 (hge i' hi')
  have hS' : va_S (yA s) s.heap T'.heap (locs ++ Lc) := ⟨Nat.le_trans hS.1 (by rw [e1]; exact hz), fun q h1 h2 => by rw [e1, hkp q (Nat.lt_of_lt_of_le h1 hS.1) (nz q h1)]; exact hS.2.1 q h1 h2, fun q hq => by
      rcases List.mem_append.mp hq with h | h
      · exact hS.2.2 q h
      · obtain ⟨i', hi', hb'⟩ := hL q h
        show s.heap.size ≤ q.base
        rw [hb']
        exact hge i' hi'⟩
  have n149 : ¬ zA G (G.2.2 149) := fun w => by
    obtain ⟨i', hi', w2⟩ := w
    exact hne i' hi' w2.symm
  have hO' : yO G o T'.heap := yO_kept hO (by rw [e1]; exact hkp _ (yO_lt hO) n149)
  have key := kk r M' hq T'.heap (locs ++ Lc) ls hl' (by rw [e1]; exact hR') hO' hS'
  obtain ⟨t2, b1, b2⟩ := key T' rfl X'
  refine ⟨t2, go t2 ?_, b2⟩
  have e3 : (r.map (zrv G.2.2)).toList ++ st.map (zrv G.2.2) = (r.toList ++ st).map (zrv G.2.2) := by cases r <;> simp
  show Steps _ _ _ (T'.setTop (F0 m (pc + 3) ls ((r.map (zrv G.2.2)).toList ++ st.map (zrv G.2.2)))) t2
  rw [e3]
  exact b1
end YR
