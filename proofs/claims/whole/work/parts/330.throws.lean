/-! ===== the class's man where it throws ===== -/
/-- what a throw wants of the state beside zWS -/
def zPx (A : Nat → Prop) (s1 s2 : Nat) (U : State) (H : Heap) : Prop := (∀ w ∈ zBd, va_Nw w U) ∧ vx_Zq Bundle.tN "UNASSIGNED_STACK" Bundle.steD A U H ∧ vx_Zq Bundle.tN "SUPPRESSED_SENTINEL" Bundle.listD A U H ∧ vk_R RX9 135 "no such man" s1 U ∧ vk_R RX9 171 "no such what" s2 U ∧ va_Nc eN eI U
theorem zBd_ot : ∀ w ∈ zBd, w.onTables = true := by decide +kernel
theorem zBd_warm {s U : State} (hW : s.WarmedH U.vm) (h : ∀ w ∈ zBd, va_Nw w s) : ∀ w ∈ zBd, va_Nw w U := by
  intro w hw
  have h1 := h w hw
  simp only [zBd, List.mem_cons, List.not_mem_nil, or_false] at hw
  rcases hw with rfl | rfl | rfl | rfl | rfl
  · exact va_Nw.warmC hW h1
  · exact va_Nw.warmC hW h1
  · exact va_Nw.warmD hW h1
  · exact va_Nw.warmD hW h1
  · exact va_Nw.warmD hW h1
theorem zNc_alike {C T : String} {s U : State} (hW : s.vm.Alike U.vm) (h : va_Nc C T s) : va_Nc C T U := by
  obtain ⟨a8, b8, h1, h2, h3⟩ := h
  exact ⟨a8, b8, by rw [hW.findClass]; exact h1, by rw [hW.findClass]; exact h2, by rw [hW.assignable]; exact h3⟩
theorem zPx.warm {A : Nat → Prop} {s1 s2 : Nat} {s U : State} {H : Heap} (hW : s.WarmedH U.vm) (h : zPx A s1 s2 s H) : zPx A s1 s2 U H :=
  ⟨zBd_warm hW h.1, h.2.1.moved hW.alike, h.2.2.1.moved hW.alike, vk_R.warm hW h.2.2.2.1, vk_R.warm hW h.2.2.2.2.1, zNc_alike hW.alike h.2.2.2.2.2⟩
theorem zPx.kept {A : Nat → Prop} {s1 s2 : Nat} {U : State} {H H1 : Heap} (h : zPx A s1 s2 U H) (hq : ∀ a : Nat, a < H.size → ¬ A a → H1[a]? = H[a]?) : zPx A s1 s2 U H1 :=
  ⟨h.1, h.2.1.kept hq, h.2.2.1.kept hq, h.2.2.2⟩
theorem zPx.narrow {A B : Nat → Prop} {s1 s2 : Nat} {U : State} {H : Heap} (h : zPx A s1 s2 U H) (hAB : ∀ q, B q → A q) : zPx B s1 s2 U H :=
  ⟨h.1, h.2.1.narrow hAB, h.2.2.1.narrow hAB, h.2.2.2⟩
theorem zPx.same {A : Nat → Prop} {s1 s2 : Nat} {u U : State} {H : Heap} (hv : u.vm = U.vm) (h : zPx A s1 s2 u H) : zPx A s1 s2 U H :=
  ⟨fun w hw => va_Nw.same (zBd_ot w hw) hv (h.1 w hw), h.2.1.moved (by rw [← hv]; exact Vm.Alike.refl u.vm), h.2.2.1.moved (by rw [← hv]; exact Vm.Alike.refl u.vm), vk_R.same hv.symm h.2.2.2.1, vk_R.same hv.symm h.2.2.2.2.1, zNc_alike (by rw [← hv]; exact Vm.Alike.refl u.vm) h.2.2.2.2.2⟩
def rmx (d : Nat) : Room := { frames := d, cells := 1, slots := 6, locals := 40 * d }
def zPm (G : zG) (s1 s2 : Nat) (av : List Value) (M : zM) : Array Value → State → Prop := fun a U => zPc G av M a U ∧ zPx (zA G) s1 s2 U U.heap
def zXc (G : zG) (M : zM) (E0 : String) : String → State → State → Prop := fun E st t => E = E0 ∧ zR G M t.heap ∧ va_F (zA G) st t
theorem zPm_blind (G : zG) (s1 s2 : Nat) (av : List Value) (M : zM) : FrameBlind (zPm G s1 s2 av M) := by
  intro a U g mk h
  exact ⟨zPc_blind G av M a U g mk h.1, zPx.same (u := U) (U := U.calling g mk a) rfl h.2⟩
theorem zx_of {l : Launch} {G : zG} {s1 s2 d : Nat} {t : zT} {av : List Value} {M : zM} {Qc : Array Value → State → Outcome → State → Prop} {XC : String → State → State → Prop} {y : MethodName} {cc : ByteArray} {nL np : Nat} {rt : Option FieldType} (ht : t = (y, cc, nL, rt, np)) (hy : plainName y.cls = true) (hlen : (zargs av).length ≤ nL)
    (body : ∀ X : zX, X.2.1 = l → X.2.2.2.1 = rmx d → zCx G X cc nL y.cls d → X.2.2.2.2.2.2.2.2.1.locks = false → (∀ x ∈ X.2.2.2.2.2.2.2.2.2.exceptionTable.toList, False) → zPx (zA G) s1 s2 X.2.2.2.2.1 X.2.2.2.2.1.heap →
      ZT G X (vx_MQ X.2.2.2.2.2.2.2.1 Qc XC X.2.2.2.2.2.2.1 X.2.2.2.2.1 1 6 (zA G)) 0 (zargs av ++ List.replicate (nL - (zargs av).length) none) [] M) : vx_Met l t.1 (zw t) (rmx d) (zPm G s1 s2 av M) Qc XC 1 6 (zA G) := by
  subst ht
  refine vx_ofW (cc := cc) (maxL := nL) (ret := rt) hy rfl ?_
  intro p e s m args below meth c s₁ B hml hout hv
  obtain ⟨⟨rfl, hinj, hP, hK, hN, hZ⟩, hx⟩ := hv
  have hts := atoms_spec (ws := zw (y, cc, nL, rt, np)) B.pre
  have hown : s.vm.findClass y.cls = some m.cls := findClass_of_methodNamed B.named
  have hC : zCx G (p, l, e, rmx d, s, m, (av.map (zrv G.2.2)).toArray, below, meth, c) cc nL y.cls d :=
    ⟨B.exec, B.bytes, hml, hown, fun w hw => hts w (List.mem_cons_of_mem _ hw), hK, hinj, ⟨rfl, rfl⟩, hN, hZ⟩
  rw [lg_entry_eq]
  have hl := lv_entry (av.map (zrv G.2.2)) (n := nL) (by rw [zargs_len]; exact hlen)
  refine body _ rfl rfl hC B.notSynchronized hout hx s.heap [] _ ?_ hP va_S.rf
  refine ⟨by rw [hl.1]; exact hml.symm, hl.2.1, fun i v h => ?_⟩
  have h1 := zargs_ok G.2.2 av 0 i v (zpad h)
  rw [Nat.zero_add] at h1
  exact hl.2.2 _ h1
theorem zword {X : zX} {G : zG} {cc : ByteArray} {nL d : Nat} {own : String} (hX : zCx G X cc nL own d) {L : List Cond} (hin : ∀ w ∈ L, w ∈ lw_tbl) (hbad : ∀ w ∈ L.filter (fun w => !goodWord w), w ∈ zBd) (hb : ∀ w ∈ zBd, va_Nw w X.2.2.2.2.1) : ∀ w ∈ L, w.before X.2.2.2.2.2.2.1 X.2.2.2.2.1 = true :=
  vx_hat (B := zBd) (fun w hw => hX.2.2.2.2.1 w (zin (hin w (List.mem_filter.mp hw).1) (List.mem_filter.mp hw).2)) hbad (fun w hw => va_Nw.use (zBd_ot w hw) (hb w hw))
theorem zk133 : Cond.classLink RX9 133 eI ∈ lw_tbl := by decide +kernel
theorem zk169 : Cond.classLink RX9 169 eN ∈ lw_tbl := by decide +kernel
theorem ziI : Cond.initialized eI ∈ lw_tbl := by decide +kernel
theorem ziN : Cond.initialized eN ∈ lw_tbl := by decide +kernel
theorem mX9_man_x1 {l : Launch} (hl : l.stackTraces = false) {G : zG} {s1 s2 : Nat} {x y : Int32} {M : zM} {Qc : Array Value → State → Outcome → State → Prop} (hi : gX9_isMan x M = some 0) : vx_Met l tX9_man.1 (zw tX9_man) (rmx 8) (zPm G s1 s2 [.ref 0, .int x, .int y] M) Qc (zXc G M eI) 1 6 (zA G) := by
  refine zx_of (y := yX9_man) rfl plX9 (Nat.le_of_ble_eq_true rfl) (fun X hXl hXr hX hlk hout hx => ?_)
  replace hX : zCx G X cX9_man 3 RX9 8 := hX
  show ZT G X _ 0 [some (.ref 0), some (.int x), some (.int y)] [] M
  refine zt_aload_n hX dX9_man_0 rfl 1 rfl ?_
  refine zt_iload_n hX dX9_man_1 rfl 2 rfl ?_
  refine zt_callV hX vX9_isMan lX9_129 dX9_man_2 zs_0 rfl (mX9_isMan hi) (by decide) rfl rfl (Nat.le_of_ble_eq_true rfl) 5 rfl (fun r0 M' hv => ?_)
  obtain ⟨v', rfl, e1, e2⟩ := hv
  subst e1 e2
  refine zt_if_ne hX dX9_man_5 18 8 (by decide) rfl (fun hc => absurd rfl hc) (fun hc => ?_)
  obtain ⟨p, l', e, R, s, m, args, below, meth, c⟩ := X
  dsimp only at hXl hXr hlk hout hx
  subst hXl hXr
  intro H locs ls hls hR hS
  have hat := zword hX zTI_in zTI_bad hx.1
  exact vx_throwS (own := RX9) (cls := eI) (names := eUp) (text := "no such man") (sa := s1) (A := zA G) hX.1 hX.2.1 hl hX.2.2.2.1 (by decide +kernel) (by decide +kernel)
    (hX.2.2.2.2.1 _ (zin zk133 rfl)) (hX.2.2.2.2.1 _ (zin ziI rfl)) hx.2.2.2.1 hat zTI_ot hx.2.1 hx.2.2.1 hS hls.1 dX9_man_8 dX9_man_11 dX9_man_12 dX9_man_14 dX9_man_17
    (fun z hz => (hout z hz).elim) (show 2 + 3 < 8 by decide) (show 0 + (13 * (2 + 1) + 43) ≤ 320 by decide) (show 0 + 1 ≤ 1 by decide) (show 0 + 6 ≤ 6 by decide) hlk
    (fun t _ h1 h2 => ⟨rfl, va_P.kept hR (fun j q hq => h2 q.1 (vx_lt hR hq)), Nat.le_trans hS.1 h1, fun q hq hn => by rw [h2 q (Nat.lt_of_lt_of_le hq hS.1)]; exact hS.2.1 q hq hn⟩)
    hS.2.2 (by decide) (by decide)
theorem mX9_man_x2 {l : Launch} (hl : l.stackTraces = false) {G : zG} {s1 s2 : Nat} {x y : Int32} {M : zM} {Qc : Array Value → State → Outcome → State → Prop} (hi : gX9_isMan x M = some 1) (hy : y < 0 ∨ 8 < y) : vx_Met l tX9_man.1 (zw tX9_man) (rmx 8) (zPm G s1 s2 [.ref 0, .int x, .int y] M) Qc (zXc G M eN) 1 6 (zA G) := by
  refine zx_of (y := yX9_man) rfl plX9 (Nat.le_of_ble_eq_true rfl) (fun X hXl hXr hX hlk hout hx => ?_)
  replace hX : zCx G X cX9_man 3 RX9 8 := hX
  show ZT G X _ 0 [some (.ref 0), some (.int x), some (.int y)] [] M
  refine zt_aload_n hX dX9_man_0 rfl 1 rfl ?_
  refine zt_iload_n hX dX9_man_1 rfl 2 rfl ?_
  refine zt_callV hX vX9_isMan lX9_129 dX9_man_2 zs_0 rfl (mX9_isMan hi) (by decide) rfl rfl (Nat.le_of_ble_eq_true rfl) 5 rfl (fun r0 M' hv => ?_)
  obtain ⟨v', rfl, e1, e2⟩ := hv
  subst e1 e2
  refine zt_if_ne hX dX9_man_5 18 8 (by decide) rfl (fun hc => ?_) (fun hc => absurd hc (by decide))
  refine zt_iload_n hX dX9_man_18 rfl 19 rfl ?_
  refine zt_tabOut hX dX9_man_19 (hy.imp (fun h => by have := Int32.lt_iff_toInt_lt.mp h; simpa using this) (fun h => by have := Int32.lt_iff_toInt_lt.mp h; simpa using this)) 165 (by decide) ?_
  obtain ⟨p, l', e, R, s, m, args, below, meth, c⟩ := X
  dsimp only at hXl hXr hlk hout hx
  subst hXl hXr
  intro H locs ls hls hR hS
  have hat := zword hX zTN_in zTN_bad hx.1
  exact zn_throw (own := RX9) (cls := eN) (names := eUp) (text := "no such what") (sa := s2) (ix := 13) (rx := prog_27_method_4_code) (A := zA G) hX.1 hX.2.1 hl (by decide +kernel) (by decide +kernel) (by decide +kernel) (by decide +kernel) hX.2.2.2.1 (by decide +kernel) (by decide +kernel)
    (hX.2.2.2.2.1 _ (zin zk169 rfl)) (hX.2.2.2.2.1 _ (zin ziN rfl)) hx.2.2.2.2.1 hat zTN_ot hx.2.1 hx.2.2.1 hS hls.1 dX9_man_165 dX9_man_168 dX9_man_169 dX9_man_171 dX9_man_174
    (fun z hz => (hout z hz).elim) (show 2 + 3 < 8 by decide) (show 0 + (13 * (2 + 1) + 43) ≤ 320 by decide) (show 0 + 1 ≤ 1 by decide) (show 0 + 6 ≤ 6 by decide) hlk
    (fun t _ h1 h2 => ⟨rfl, va_P.kept hR (fun j q hq => h2 q.1 (vx_lt hR hq)), Nat.le_trans hS.1 h1, fun q hq hn => by rw [h2 q (Nat.lt_of_lt_of_le hq hS.1)]; exact hS.2.1 q hq hn⟩)
    hS.2.2 (by decide) (by decide)
