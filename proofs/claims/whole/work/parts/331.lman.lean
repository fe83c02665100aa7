/-! ===== the law's man: it calls the class's, catches both throws ===== -/
def zB (G : zG) : Nat → Prop := fun q => zA G q ∨ q = G.2.2 149
def wLm : List Cond := Cond.codeWith yL_man cL_man 5 (some .int) [(0, 10, 13, 13), (0, 10, 17, 15)] :: zWS
def rLm : Room := { frames := 9, cells := 1, slots := 6, locals := 400 }
def zPl (G : zG) (s1 s2 : Nat) (x y : Int32) (M : zM) (o : Int64) : Array Value → State → Prop := fun a U => zPc G [.ref 0, .int x, .int y, .ref 149] M a U ∧ yO G o U.heap ∧ zPx (zB G) s1 s2 U U.heap
def zQm (G : zG) (M : zM) (r : Int32) (o : Int64) : Array Value → State → Outcome → State → Prop := fun _ st out t => out = .returned (some (.int r)) ∧ zR G M t.heap ∧ yO G o t.heap ∧ va_F (zB G) st t
theorem zPl_blind (G : zG) (s1 s2 : Nat) (x y : Int32) (M : zM) (o : Int64) : FrameBlind (zPl G s1 s2 x y M o) := by
  intro a U g mk h
  exact ⟨zPc_blind G _ M a U g mk h.1, h.2.1, zPx.same (u := U) (U := U.calling g mk a) rfl h.2.2⟩
theorem zk13 : Cond.classLink RL 13 eI ∈ lw_tbl := by decide +kernel
theorem zk15 : Cond.classLink RL 15 eN ∈ lw_tbl := by decide +kernel
def lvM (x y : Int32) : List (Option Value) := [some (.ref 0), some (.int x), some (.int y), some (.ref 149), none]
/-- what stands at the entry of the law's man -/
def mC (G : zG) (s1 s2 : Nat) (M : zM) (o : Int64) (p : Program) (s : State) (m : MethodId) (args : Array Value) (meth : Method) (c : Code) : Prop :=
  p.tables.exec = Jvm.exec ∧ c.code = cL_man ∧ meth.sig.returnType = some .int ∧ c.maxLocals = 5 ∧ s.vm.findClass RL = some m.cls ∧ (∀ w ∈ zWS, w.before args s = true) ∧ va_K G.1 vwCl (ztys G) s ∧ zInj G ∧ zNest G s ∧ zStat G s s.heap ∧ meth.locks = false ∧ c.exceptionTable.toList = tableOf [(0, 10, 13, 13), (0, 10, 17, 15)] ∧ zR G M s.heap ∧ yO G o s.heap ∧ zPx (zB G) s1 s2 s s.heap
theorem lm_of {l : Launch} {G : zG} {s1 s2 : Nat} {x y r : Int32} {M : zM} {o o2 : Int64}
    (body : ∀ (p : Program) (e : Env) (s : State) (m : MethodId) (args : Array Value) (below : List Frame) (meth : Method) (c : Code) (ls : Array Slot), mC G s1 s2 M o p s m args meth c → zL G ls 5 (lvM x y) →
      W p l e rLm s m args below meth c s.heap [] 0 0 (MQ below (zQm G M r o2) args s 1 6 (zB G)) (F0 m 0 ls [])) : Met l yL_man wLm rLm (zPl G s1 s2 x y M o) (zQm G M r o2) 1 6 (zB G) := by
  refine va_MetW (cc := cL_man) (maxL := 5) (ret := some .int) (hh := [(0, 10, 13, 13), (0, 10, 17, 15)]) (by decide +kernel) rfl ?_
  intro p e s m args below meth c s₁ B hml hv
  obtain ⟨⟨rfl, hinj, hP, hK, hN, hZ⟩, hO, hx⟩ := hv
  have hts := atoms_spec (ws := wLm) B.pre
  have hown : s.vm.findClass RL = some m.cls := findClass_of_methodNamed B.named
  have htab := vx_table (x := yL_man) B (hts _ List.mem_cons_self)
  rw [lg_entry_eq]
  have hl := lv_entry (([.ref 0, .int x, .int y, .ref 149] : List Value).map (zrv G.2.2)) (n := 5) (by rw [zargs_len]; exact Nat.le_of_ble_eq_true rfl)
  refine body _ _ _ _ _ _ _ _ _ ⟨B.exec, B.bytes, B.returns, hml, hown, fun w hw => hts w (List.mem_cons_of_mem _ hw), hK, hinj, hN, hZ, B.notSynchronized, htab, hP, hO, hx⟩ ?_
  refine ⟨hl.1, hl.2.1, fun i v h => ?_⟩
  have h1 := zargs_ok G.2.2 [.ref 0, .int x, .int y, .ref 149] 0 i v (by
    have h2 : lvM x y = zargs [.ref 0, .int x, .int y, .ref 149] ++ List.replicate 1 none := rfl
    rw [h2] at h
    exact zpad h)
  rw [Nat.zero_add] at h1
  exact hl.2.2 _ h1
section LMR
variable {G : zG} {s1 s2 : Nat} {x y r : Int32} {M : zM} {o o2 : Int64} {p : Program} {l : Launch} {e : Env} {s : State} {m : MethodId} {args : Array Value} {below : List Frame} {meth : Method} {c : Code} {ls : Array Slot} {Q : State → Prop}
theorem lm_to5 (hC : mC G s1 s2 M o p s m args meth c) (hl : zL G ls 5 (lvM x y)) (kk : W p l e rLm s m args below meth c s.heap [] 0 0 Q (F0 m 5 ls [.int y, .int x, .ref (G.2.2 0), .int 0, .ref (G.2.2 149)])) : W p l e rLm s m args below meth c s.heap [] 0 0 Q (F0 m 0 ls []) := by
  refine lv_aload_n hC.1 hC.2.1 dL_man_0 rfl (hl.2.2 3 (.ref 149) rfl) ?_
  refine lv_iconst (v := 0) hC.1 hC.2.1 dL_man_1 (by decide) ?_
  refine lv_aload_n hC.1 hC.2.1 dL_man_2 rfl (hl.2.2 0 (.ref 0) rfl) ?_
  refine lv_iload_n hC.1 hC.2.1 dL_man_3 rfl (hl.2.2 1 (.int x) rfl) ?_
  refine lv_iload_n hC.1 hC.2.1 dL_man_4 rfl (hl.2.2 2 (.int y) rfl) ?_
  exact kk
theorem lm_cw (hC : mC G s1 s2 M o p s m args meth c) {rm : Room} {mc ms : Nat} (h1 : rm.cells = mc) (h2 : rm.slots = ms) (h3 : rm.frames ≤ 8) (h4 : rm.locals ≤ 320) : CallW rLm s args RL RX9 7 tX9_man.1 tX9_man.2.1 tX9_man.2.2.1 tX9_man.2.2.2.1 (zw tX9_man) rm mc ms 2 := by
  obtain ⟨v1, v2, v3, v4, v5, v6⟩ := vX9_man
  have hT : GoodIn zWS (wsV RL 7 tX9_man.1.cls tX9_man.1 (zw tX9_man)) := zgood (fun w hw => by
    rcases List.mem_append.mp hw with h | h
    · simp only [List.mem_cons, List.not_mem_nil, or_false] at h
      rcases h with rfl | rfl | rfl | rfl
      · exact lL_7
      · exact v1
      · exact v2
      · exact v3
    · exact zw_in v4 w h)
  exact cwV 2 hC.2.2.2.2.2.1 hT rfl h1 h2 ⟨rfl, v5.1, v5.2.1, v5.2.2⟩ ⟨by show rm.frames + 1 ≤ 9; omega, by show 8 + (3 + 11) + rm.locals ≤ 400; omega⟩
theorem lm_rec (hC : mC G s1 s2 M o p s m args meth c) : ∃ cell : Cell, s.heap[G.2.2 0]? = some cell ∧ cell.vm.isStatics = false ∧ s.vm.findClass RX9 = some cell.cls :=
  va_recv hC.2.2.2.2.2.2.1 hC.2.2.2.2.2.2.2.2.2.2.2.2.1 (ci := 8) (q := (RX9, TX9, 17)) rfl (q0 := 0) (by rw [zW_at G M (zs_lt zs_0), zcell_o zs_0])
theorem zA_B (q : Nat) (h : zA G q) : zB G q := Or.inl h
end LMR
