section ZCALL
variable {G : zG} {X : zX} {Q : Option Value → zM → Prop} {cc : ByteArray} {nL dd pc : Nat} {own : String} {rt : Option FieldType} {lv : List (Option Value)} {st : List Value} {M : zM}
def zVok (t : zT) : Prop := Cond.instanceMethod t.1 ∈ zWS ∧ Cond.selects t.1.cls t.1 t.1 ∈ zWS ∧ Cond.initialized t.1.cls ∈ zWS ∧ Cond.code t.1 t.2.1 t.2.2.1 t.2.2.2.1 ∈ zWS ∧ (t.1.cls ≠ "java/lang/invoke/MethodHandle" ∧ t.1.cls ≠ "java/lang/invoke/VarHandle" ∧ (parseMethodDescriptor t.1.desc).map (fun d => d.parameters.length) = some t.2.2.2.2) ∧ t.2.2.1 ≤ 21
def zSok (t : zT) : Prop := Cond.static t.1 ∈ zWS ∧ Cond.initialized t.1.cls ∈ zWS ∧ Cond.code t.1 t.2.1 t.2.2.1 t.2.2.2.1 ∈ zWS ∧ (t.1.cls ≠ "java/lang/invoke/MethodHandle" ∧ t.1.cls ≠ "java/lang/invoke/VarHandle" ∧ (parseMethodDescriptor t.1.desc).map (fun d => d.parameters.length) = some t.2.2.2.2) ∧ t.2.2.1 ≤ 21
theorem zgood {ws : List Cond} (h : ∀ w ∈ ws, w ∈ zWS) : GoodIn zWS ws := fun w hw => ⟨h w hw, good_of_word (zWS_good (h w hw))⟩
theorem zw_in {t : zT} (h : Cond.code t.1 t.2.1 t.2.2.1 t.2.2.2.1 ∈ zWS) : ∀ w ∈ zw t, w ∈ zWS := fun w hw => (List.mem_cons.mp hw).elim (fun e => e ▸ h) id
theorem z_cat (l : List Value) : ((l.map (zrv G.2.2)).map fun v => v.category).sum = (l.map fun v => v.category).sum := by
  rw [List.map_map]
  congr 1
  exact List.map_congr_left (fun v _ => zrv_cat _ v)
theorem z_run {p : Program} {l : Launch} {e : Env} {R : Room} {s : State} {m : MethodId} {args : Array Value} {below : List Frame} {meth : Method} {c : Code} {H : Heap} {locs : List Loc} {ls : Array Slot} {st0 : List Value} {a : Array Value} {Q' : Option Value → zM → Prop}
    (run : va_Run p l e R s m args below meth c H locs 0 0 0 0 (F0 m pc ls st0) (st.map (zrv G.2.2)) (zQc G Q' a) (zA G))
    (hl : zL G ls c.maxLocals lv) (hS : va_S (zA G) s.heap H locs)
    (kk : ∀ r M', Q' r M' → Z G (p, l, e, R, s, m, args, below, meth, c) Q (pc + 3) lv (r.toList ++ st) M') :
    W p l e R s m args below meth c H locs 0 0 (MQ below (zQc G Q) args s 0 0 (zA G)) (F0 m pc ls st0) := by
  intro T hT XX
  obtain ⟨v, st₀, t, T', L, h0, X', hL, e1, e2, ⟨r, M', ho, hq, hR', hF⟩, go⟩ := run T hT XX
  have hv : v = r.map (zrv G.2.2) := by injection ho
  subst hv
  obtain ⟨hz, hk⟩ := hF
  rw [h0] at hz hk
  have hS' : va_S (zA G) s.heap T'.heap (locs ++ L) := ⟨Nat.le_trans hS.1 (by rw [e1]; exact hz), fun q h1 h2 => by rw [e1, hk q (Nat.lt_of_lt_of_le h1 hS.1) h2]; exact hS.2.1 q h1 h2, fun q hq => by
      rcases List.mem_append.mp hq with h | h
      · exact hS.2.2 q h
      · exact hL q h⟩
  have key := kk r M' hq T'.heap (locs ++ L) ls hl (by rw [e1]; exact hR') hS'
  obtain ⟨t2, a1, b1⟩ := key T' rfl X'
  refine ⟨t2, go t2 ?_, b1⟩
  have e3 : (r.map (zrv G.2.2)).toList ++ st.map (zrv G.2.2) = (r.toList ++ st).map (zrv G.2.2) := by cases r <;> simp
  show Steps _ _ _ (T'.setTop (F0 m (pc + 3) ls ((r.map (zrv G.2.2)).toList ++ st.map (zrv G.2.2)))) t2
  rw [e3]
  exact a1
theorem z_pre {s : State} {H : Heap} {locs : List Loc} (hK : va_K G.1 vwCl (ztys G) s) (hI : zInj G) (hN : zNest G s) (hZ : zStat G s s.heap) (hR : zR G M H) (hS : va_S (zA G) s.heap H locs) (av : List Value) : ∀ U : State, U.heap = H → s.WarmedH U.vm → zPc G av M (av.map (zrv G.2.2)).toArray U := by
  intro U hU hW
  refine ⟨rfl, hI, by rw [hU]; exact hR, va_K.moved hW.alike hK, hN.warm hW, ?_⟩
  rw [hU]
  exact zStat.moved hW.alike (zStat.kept hZ (fun q h1 h2 => hS.2.1 q h1 h2))
theorem z_callV (hX : zC G X cc nL own rt dd) {t : zT} {idx ci nf i d' : Nat} {ft : Nat → Option (Option Nat)} {As st0 : List Value} {Q' : Option Value → zM → Prop} (hv : zVok t) (hl : Cond.methodLink own idx t.1 ∈ zWS) (d : decode cc pc = .ok (.invokevirtual idx, 3)) (hs : zs i = .inl (ci, nf, ft)) (hc : (vwCl[ci]?).map (fun q => q.1) = some t.1.cls)
    (hC : Ct G d' t (.ref i :: As) M Q') (hd : d' + 1 ≤ dd) (hA : As.length = t.2.2.2.2) (hst : st0 = As.reverse ++ .ref i :: st) (hW : (st.map fun v => v.category).sum ≤ 8) (n : Nat) (hn : pc + 3 = n) (kk : ∀ r M', Q' r M' → Z G X Q n lv (r.toList ++ st) M') : Z G X Q pc lv st0 M := by
  obtain ⟨p, l, e, R, s, m, args, below, meth, c⟩ := X
  subst hn
  intro H locs ls hl' hR hS
  obtain ⟨hx, hb, hml, hown, hts, hK, hI, hlk, hrt, hRm, hN, hZ⟩ := hX
  dsimp only at hx hb hml hown hts hK hlk hrt hRm hN hZ
  obtain ⟨v1, v2, v3, v4, v5, v6⟩ := hv
  have hT : GoodIn zWS (wsV own idx t.1.cls t.1 (zw t)) := zgood (fun w hw => by
    rcases List.mem_append.mp hw with h | h
    · simp only [List.mem_cons, List.not_mem_nil, or_false] at h
      rcases h with rfl | rfl | rfl | rfl
      · exact hl
      · exact v1
      · exact v2
      · exact v3
    · exact zw_in v4 w h)
  have cw : CallW R s args own t.1.cls idx t.1 t.2.1 t.2.2.1 t.2.2.2.1 (zw t) (zr d') 0 0 t.2.2.2.2 := cwV t.2.2.2.2 hts hT rfl rfl rfl ⟨rfl, v5.1, v5.2.1, v5.2.2⟩ (by subst hRm; exact ⟨hd, by show 8 + (t.2.2.1 + 11) + 40 * d' ≤ 40 * dd; omega⟩)
  have hrec : ∃ cell : Cell, H[G.2.2 i]? = some cell ∧ cell.vm.isStatics = false ∧ s.vm.findClass t.1.cls = some cell.cls := by
    cases hq : vwCl[ci]? with
    | none => rw [hq] at hc; cases hc
    | some q =>
      rw [hq] at hc
      have : q.1 = t.1.cls := Option.some.inj hc
      rw [← this]
      exact va_recv hK hR hq (q0 := i) (by rw [zW_at G M (zs_lt hs), zcell_o hs])
  refine z_run (a := (Value.ref (G.2.2 i) :: As.map (zrv G.2.2)).toArray) (va_runV (As := As.map (zrv G.2.2)) (b := G.2.2 i) ⟨hx, hb, hml, hown, hts⟩ (hC l) cw ⟨zPc_blind G _ M, hrec, z_pre hK hI hN hZ hR hS (.ref i :: As)⟩ rfl (by rw [List.length_map]; exact hA) (show ls.size = nL by rw [hl'.1]; exact hml) ?_ (lv_room (by rw [z_cat]; exact hW)) d ⟨Nat.zero_le _, Nat.zero_le _⟩) hl' hS kk
  show st0.map (zrv G.2.2) = _
  rw [hst]
  simp [zrv]
theorem z_callS (hX : zC G X cc nL own rt dd) {t : zT} {idx d' : Nat} {As st0 : List Value} {Q' : Option Value → zM → Prop} (hv : zSok t) (hc : t.1.cls = own) (hl : Cond.methodLink own idx t.1 ∈ zWS) (d : decode cc pc = .ok (.invokestatic idx, 3))
    (hC : Ct G d' t As M Q') (hd : d' + 1 ≤ dd) (hA : As.length = t.2.2.2.2) (hst : st0 = As.reverse ++ st) (hW : (st.map fun v => v.category).sum ≤ 8) (n : Nat) (hn : pc + 3 = n) (kk : ∀ r M', Q' r M' → Z G X Q n lv (r.toList ++ st) M') : Z G X Q pc lv st0 M := by
  obtain ⟨p, l, e, R, s, m, args, below, meth, c⟩ := X
  subst hn
  intro H locs ls hl' hR hS
  obtain ⟨hx, hb, hml, hown, hts, hK, hI, hlk, hrt, hRm, hN, hZ⟩ := hX
  dsimp only at hx hb hml hown hts hK hlk hrt hRm hN hZ
  obtain ⟨v1, v3, v4, v5, v6⟩ := hv
  have hT : GoodIn zWS (wsS own idx t.1 (zw t)) := zgood (fun w hw => by
    rcases List.mem_append.mp hw with h | h
    · simp only [List.mem_cons, List.not_mem_nil, or_false] at h
      rcases h with rfl | rfl | rfl
      · exact hl
      · exact v1
      · rw [← hc]; exact v3
    · exact zw_in v4 w h)
  have cw : CallB R s args own idx t.1 t.2.1 t.2.2.1 t.2.2.2.1 (zw t) (zr d') 0 0 t.2.2.2.2 ∧ (Cond.static t.1).before args s = true := cwS t.2.2.2.2 hts hT rfl rfl rfl ⟨hc, v5.1, v5.2.1, v5.2.2⟩ (by subst hRm; exact ⟨hd, by show 8 + (t.2.2.1 + 11) + 40 * d' ≤ 40 * dd; omega⟩)
  refine z_run (a := (As.map (zrv G.2.2)).toArray) (va_runS (As := As.map (zrv G.2.2)) ⟨hx, hb, hml, hown, hts⟩ (hC l) cw ⟨zPc_blind G _ M, z_pre hK hI hN hZ hR hS As⟩ rfl (by rw [List.length_map]; exact hA) (show ls.size = nL by rw [hl'.1]; exact hml) ?_ (lv_room (by rw [z_cat]; exact hW)) d ⟨Nat.zero_le _, Nat.zero_le _⟩) hl' hS kk
  show st0.map (zrv G.2.2) = _
  rw [hst]
  simp
theorem z_callSN (hX : zC G X cc nL own rt dd) {t : zT} {idx d' : Nat} {host : String} {As st0 : List Value} {Q' : Option Value → zM → Prop} (hv : zSok t) (hl : (own, idx, t.1, host) ∈ zNMl) (d : decode cc pc = .ok (.invokestatic idx, 3))
    (hC : Ct G d' t As M Q') (hd : d' + 1 ≤ dd) (hA : As.length = t.2.2.2.2) (hst : st0 = As.reverse ++ st) (hW : (st.map fun v => v.category).sum ≤ 8) (n : Nat) (hn : pc + 3 = n) (kk : ∀ r M', Q' r M' → Z G X Q n lv (r.toList ++ st) M') : Z G X Q pc lv st0 M := by
  obtain ⟨p, l, e, R, s, m, args, below, meth, c⟩ := X
  subst hn
  intro H locs ls hl' hR hS
  obtain ⟨hx, hb, hml, hown, hts, hK, hI, hlk, hrt, hRm, hN, hZ⟩ := hX
  dsimp only at hx hb hml hown hts hK hlk hrt hRm hN hZ
  obtain ⟨v1, v3, v4, v5, v6⟩ := hv
  have cw : va_CN R s args own idx t.1 host t.2.1 t.2.2.1 t.2.2.2.1 (zw t) (zr d') 0 0 t.2.2.2.2 := va_cnB t.2.2.2.2 hts (zgood (zw_in v4)) rfl rfl rfl (hN.2.1 _ hl) (hts _ v3) ⟨v5.1, v5.2.1, v5.2.2⟩ (by subst hRm; exact ⟨hd, by show 8 + (t.2.2.1 + 11) + 40 * d' ≤ 40 * dd; omega⟩)
  refine z_run (a := (As.map (zrv G.2.2)).toArray) (va_runSN (As := As.map (zrv G.2.2)) ⟨hx, hb, hml, hown, hts⟩ (hC l) ⟨cw, hts _ v1, trivial⟩ ⟨zPc_blind G _ M, z_pre hK hI hN hZ hR hS As⟩ rfl (by rw [List.length_map]; exact hA) (show ls.size = nL by rw [hl'.1]; exact hml) ?_ (lv_room (by rw [z_cat]; exact hW)) d ⟨Nat.zero_le _, Nat.zero_le _⟩) hl' hS kk
  show st0.map (zrv G.2.2) = _
  rw [hst]
  simp
/-! posts by kind -/
def Qi (P : Int32 → zM → Prop) : Option Value → zM → Prop := fun r M' => ∃ v, r = some (.int v) ∧ P v M'
def Ql (P : Int64 → zM → Prop) : Option Value → zM → Prop := fun r M' => ∃ v, r = some (.long v) ∧ P v M'
def Qv (P : zM → Prop) : Option Value → zM → Prop := fun r M' => r = none ∧ P M'
theorem Qi.to {P : Int32 → zM → Prop} {n : Nat} (kk : ∀ v M', P v M' → Z G X Q n lv (.int v :: st) M') : ∀ r M', Qi P r M' → Z G X Q n lv (r.toList ++ st) M' := fun r M' h => by
  obtain ⟨v, rfl, h⟩ := h; exact kk v M' h
theorem Ql.to {P : Int64 → zM → Prop} {n : Nat} (kk : ∀ v M', P v M' → Z G X Q n lv (.long v :: st) M') : ∀ r M', Ql P r M' → Z G X Q n lv (r.toList ++ st) M' := fun r M' h => by
  obtain ⟨v, rfl, h⟩ := h; exact kk v M' h
theorem Qv.to {P : zM → Prop} {n : Nat} (kk : ∀ M', P M' → Z G X Q n lv st M') : ∀ r M', Qv P r M' → Z G X Q n lv (r.toList ++ st) M' := fun r M' h => by
  obtain ⟨rfl, h⟩ := h; exact kk M' h
end ZCALL
