/-! ===== constructors: a judgement over a growing world ===== -/
abbrev bG : Type := va_G × (Nat → ClassId)
def gB (B : bG) : zG := (B.1, B.2, fun i => i)
def bA (z0 : Nat) : Nat → Prop := fun q => z0 ≤ q
def bS (z0 a0 : Nat) (U : State) (H : Heap) : Prop := va_Z "ColdFeet" "SETTING_WITHOUT" "[I" (.ref a0) (bA z0) U H ∧ va_T .int a0 5 (fun j => .int (zc0 j)) (bA z0) U H
def bNst (U : State) : Prop := (∀ q ∈ zNF, va_Nw (.fieldLinkNest q.1 q.2.1 q.2.2.1 q.2.2.2.1 q.2.2.2.2.1 q.2.2.2.2.2) U) ∧ (∀ q ∈ zNMl, va_Nw (.methodLinkNest q.1 q.2.1 q.2.2.1 q.2.2.2) U)
def bRm (d kc ks : Nat) : Room := { frames := d, cells := kc, slots := ks, locals := 40 * d }
def bPc (B : bG) (z0 a0 : Nat) (av : List Value) (ws : va_W) : Array Value → State → Prop := fun a U => a = av.toArray ∧ va_P B.1 vwCl ws U.heap ∧ va_D (bA z0) ws ∧ va_K B.1 vwCl (ztys (gB B)) U ∧ bNst U ∧ bS z0 a0 U U.heap ∧ z0 ≤ U.heap.size
def bQc (B : bG) (z0 : Nat) (P : va_W → Prop) : Array Value → State → Outcome → State → Prop := fun _ st o t => o = .returned none ∧ ∃ ws, P ws ∧ va_P B.1 vwCl ws t.heap ∧ va_D (bA z0) ws ∧ va_F (bA z0) st t
/-- a contract of a void method over the world -/
def Cb (B : bG) (z0 a0 d kc ks : Nat) (t : zT) (av : List Value) (ws : va_W) (P : va_W → Prop) : Prop := ∀ l : Launch, Met l t.1 (zw t) (bRm d kc ks) (bPc B z0 a0 av ws) (bQc B z0 P) kc ks (bA z0)
def bC (B : bG) (z0 a0 : Nat) (X : zX) (cc : ByteArray) (nL : Nat) (own : String) (d kc ks : Nat) : Prop :=
  X.1.tables.exec = Jvm.exec ∧ X.2.2.2.2.2.2.2.2.2.code = cc ∧ X.2.2.2.2.2.2.2.2.2.maxLocals = nL ∧ X.2.2.2.2.1.vm.findClass own = some X.2.2.2.2.2.1.cls ∧ (∀ w ∈ zWS, w.before X.2.2.2.2.2.2.1 X.2.2.2.2.1 = true) ∧ va_K B.1 vwCl (ztys (gB B)) X.2.2.2.2.1 ∧ X.2.2.2.2.2.2.2.2.1.locks = false ∧ X.2.2.2.2.2.2.2.2.1.sig.returnType = none ∧ X.2.2.2.1 = bRm d kc ks ∧ bNst X.2.2.2.2.1 ∧ bS z0 a0 X.2.2.2.2.1 X.2.2.2.2.1.heap ∧ z0 ≤ X.2.2.2.2.1.heap.size
def ZB (B : bG) (z0 : Nat) (X : zX) (P : va_W → Prop) (pc : Nat) (lv : List (Option Value)) (st : List Value) (ws : va_W) (k n : Nat) : Prop :=
  ∀ (H : Heap) (locs : List Loc) (ls : Array Slot), zL (gB B) ls X.2.2.2.2.2.2.2.2.2.maxLocals lv → va_P B.1 vwCl ws H → va_D (bA z0) ws → va_S (bA z0) X.2.2.2.2.1.heap H locs →
    W X.1 X.2.1 X.2.2.1 X.2.2.2.1 X.2.2.2.2.1 X.2.2.2.2.2.1 X.2.2.2.2.2.2.1 X.2.2.2.2.2.2.2.1 X.2.2.2.2.2.2.2.2.1 X.2.2.2.2.2.2.2.2.2 H locs k n
      (MQ X.2.2.2.2.2.2.2.1 (bQc B z0 P) X.2.2.2.2.2.2.1 X.2.2.2.2.1 X.2.2.2.1.cells X.2.2.2.1.slots (bA z0)) (F0 X.2.2.2.2.2.1 pc ls st)
theorem bPc_blind (B : bG) (z0 a0 : Nat) (av : List Value) (ws : va_W) : FrameBlind (bPc B z0 a0 av ws) := by
  intro a U g mk h
  obtain ⟨h1, h2, h3, h4, h5, h6, h7⟩ := h
  refine ⟨h1, h2, h3, va_K.moved (u := U) (U := U.calling g mk a) (Vm.Alike.refl U.vm) h4, ⟨fun q hq => va_Nw.same rfl rfl (h5.1 q hq), fun q hq => va_Nw.same rfl rfl (h5.2 q hq)⟩, ⟨h6.1.moved (u := U) (U := U.calling g mk a) (Vm.Alike.refl U.vm), h6.2.moved (u := U) (U := U.calling g mk a) (Vm.Alike.refl U.vm)⟩, h7⟩
theorem zrvB (B : bG) (v : Value) : zrv (gB B).2.2 v = v := by cases v <;> rfl
theorem zmapB (B : bG) (l : List Value) : l.map (zrv (gB B).2.2) = l := by
  induction l with
  | nil => rfl
  | cons x xs ih => rw [List.map_cons, ih, zrvB]
theorem Cb.of {B : bG} {z0 a0 d kc ks : Nat} {t : zT} {av : List Value} {ws : va_W} {P : va_W → Prop} {y : MethodName} {cc : ByteArray} {nL np : Nat} (ht : t = (y, cc, nL, none, np)) (hy : plainName y.cls = true) (hlen : (zargs av).length ≤ nL)
    (body : ∀ X : zX, bC B z0 a0 X cc nL y.cls d kc ks → X.2.2.2.2.2.2.2.2.1.name = y.name → ZB B z0 X P 0 (zargs av ++ List.replicate (nL - (zargs av).length) none) [] ws 0 0) : Cb B z0 a0 d kc ks t av ws P := by
  subst ht
  intro l
  refine Met.ofW (cc := cc) (maxL := nL) (ret := none) hy rfl ?_
  intro p e s m args below meth c s₁ Bd hml hv
  obtain ⟨rfl, hP, hD, hK, hN, hS, hz⟩ := hv
  have hts := atoms_spec (ws := zw (y, cc, nL, none, np)) Bd.pre
  have hown : s.vm.findClass y.cls = some m.cls := findClass_of_methodNamed Bd.named
  have hnm : meth.name = y.name := (name_of_methodNamed Bd.named Bd.method).1
  rw [lg_entry_eq]
  have hl := lv_entry av (n := nL) (by rw [← zmapB B av, zargs_len]; exact hlen)
  refine body (p, l, e, bRm d kc ks, s, m, av.toArray, below, meth, c) ⟨Bd.exec, Bd.bytes, hml, hown, fun w hw => hts w (List.mem_cons_of_mem _ hw), hK, Bd.notSynchronized, Bd.returns, rfl, hN, hS, hz⟩ hnm s.heap [] _ ?_ hP hD va_S.rf
  refine ⟨by rw [hl.1]; exact hml.symm, hl.2.1, fun i v h => ?_⟩
  have h1 := zargs_ok (gB B).2.2 av 0 i v (zpad h)
  rw [Nat.zero_add, zmapB] at h1
  exact hl.2.2 _ h1
section ZBR
variable {B : bG} {z0 a0 : Nat} {X : zX} {P : va_W → Prop} {cc : ByteArray} {nL d kc ks pc k n : Nat} {own : String} {lv : List (Option Value)} {st : List Value} {ws : va_W}
theorem zb_aload_n (hX : bC B z0 a0 X cc nL own d kc ks) {j : Fin 4} {x : Nat} (dd : decode cc pc = .ok (.aload_n j, 1)) (h : lv[(j : Nat)]? = some (some (.ref x))) (kk : ZB B z0 X P (pc + 1) lv (.ref x :: st) ws k n) : ZB B z0 X P pc lv st ws k n := by
  obtain ⟨p, l, e, R, s, m, args, below, meth, c⟩ := X
  intro H locs ls hl hP hD hS
  exact lv_aload_n hX.1 hX.2.1 dd rfl (hl.2.2 _ _ h) (kk H locs ls hl hP hD hS)
theorem zb_iload_n (hX : bC B z0 a0 X cc nL own d kc ks) {j : Fin 4} {x : Int32} (dd : decode cc pc = .ok (.iload_n j, 1)) (h : lv[(j : Nat)]? = some (some (.int x))) (kk : ZB B z0 X P (pc + 1) lv (.int x :: st) ws k n) : ZB B z0 X P pc lv st ws k n := by
  obtain ⟨p, l, e, R, s, m, args, below, meth, c⟩ := X
  intro H locs ls hl hP hD hS
  exact lv_iload_n hX.1 hX.2.1 dd rfl (hl.2.2 _ _ h) (kk H locs ls hl hP hD hS)
theorem zb_istore_n (hX : bC B z0 a0 X cc nL own d kc ks) {j : Fin 4} {x : Int32} {lv' : List (Option Value)} (dd : decode cc pc = .ok (.istore_n j, 1)) (hj : (j : Nat) < nL) (hl' : zp1 lv (j : Nat) (.int x) = lv') (kk : ZB B z0 X P (pc + 1) lv' st ws k n) : ZB B z0 X P pc lv (.int x :: st) ws k n := by
  obtain ⟨p, l, e, R, s, m, args, below, meth, c⟩ := X
  subst hl'
  intro H locs ls hl hP hD hS
  exact lv_istore_n hX.1 hX.2.1 dd rfl (zpairs_has hl) (by rw [show c.maxLocals = nL from hX.2.2.1]; exact hj) rfl (fun ls' h' => kk H locs ls' (zL_put1 h') hP hD hS)
theorem zb_iinc (hX : bC B z0 a0 X cc nL own d kc ks) {i : Nat} {j : Int} {x v : Int32} {lv' : List (Option Value)} (dd : decode cc pc = .ok (.iinc i j, 3)) (h : lv[i]? = some (some (.int x))) (hv : x + Int32.ofInt j = v) (hi : i < nL) (hl' : zp1 lv i (.int v) = lv') (kk : ZB B z0 X P (pc + 3) lv' st ws k n) : ZB B z0 X P pc lv st ws k n := by
  obtain ⟨p, l, e, R, s, m, args, below, meth, c⟩ := X
  subst hl'
  intro H locs ls hl hP hD hS
  obtain ⟨r, hr⟩ := List.getElem?_of_mem (zpairs_mem (G := gB B) h)
  exact lv_iinc hX.1 hX.2.1 dd (zpairs_has hl) (k := r) hr hv (by rw [show c.maxLocals = nL from hX.2.2.1]; exact hi) rfl (fun ls' h' => kk H locs ls' (zL_put1 h') hP hD hS)
theorem zb_iconst (hX : bC B z0 a0 X cc nL own d kc ks) {j : Int} (v : Int32) (dd : decode cc pc = .ok (.iconst j, 1)) (hv : Int32.ofInt j = v) (kk : ZB B z0 X P (pc + 1) lv (.int v :: st) ws k n) : ZB B z0 X P pc lv st ws k n := by
  obtain ⟨p, l, e, R, s, m, args, below, meth, c⟩ := X
  intro H locs ls hl hP hD hS
  exact lv_iconst hX.1 hX.2.1 dd hv (kk H locs ls hl hP hD hS)
theorem zb_bipush (hX : bC B z0 a0 X cc nL own d kc ks) {j : Int} (v : Int32) (dd : decode cc pc = .ok (.bipush j, 2)) (hv : (Int8.ofInt j).toInt32 = v) (kk : ZB B z0 X P (pc + 2) lv (.int v :: st) ws k n) : ZB B z0 X P pc lv st ws k n := by
  obtain ⟨p, l, e, R, s, m, args, below, meth, c⟩ := X
  intro H locs ls hl hP hD hS
  exact lv_bipush hX.1 hX.2.1 dd hv (kk H locs ls hl hP hD hS)
theorem zb_sipush (hX : bC B z0 a0 X cc nL own d kc ks) {j : Int} (v : Int32) (dd : decode cc pc = .ok (.sipush j, 3)) (hv : (Int16.ofInt j).toInt32 = v) (kk : ZB B z0 X P (pc + 3) lv (.int v :: st) ws k n) : ZB B z0 X P pc lv st ws k n := by
  obtain ⟨p, l, e, R, s, m, args, below, meth, c⟩ := X
  intro H locs ls hl hP hD hS
  exact lv_sipush hX.1 hX.2.1 dd hv (kk H locs ls hl hP hD hS)
theorem zb_dup (hX : bC B z0 a0 X cc nL own d kc ks) {v : Value} (dd : decode cc pc = .ok (.dup, 1)) (hc : v.category = 1) (kk : ZB B z0 X P (pc + 1) lv (v :: v :: st) ws k n) : ZB B z0 X P pc lv (v :: st) ws k n := by
  obtain ⟨p, l, e, R, s, m, args, below, meth, c⟩ := X
  intro H locs ls hl hP hD hS
  exact lv_dup hX.1 hX.2.1 dd hc (kk H locs ls hl hP hD hS)
theorem zb_icmp_ge (hX : bC B z0 a0 X cc nL own d kc ks) {x y : Int32} {off : Int} (dd : decode cc pc = .ok (.if_icmp .ge off, 3)) (tgt : Nat) (ht : (pc : Int) + off = (tgt : Int)) (kt : y ≤ x → ZB B z0 X P tgt lv st ws k n) (kf : ¬ y ≤ x → ZB B z0 X P (pc + 3) lv st ws k n) : ZB B z0 X P pc lv (.int y :: .int x :: st) ws k n := by
  obtain ⟨p, l, e, R, s, m, args, below, meth, c⟩ := X
  intro H locs ls hl hP hD hS
  exact lv_icmp_ge hX.1 hX.2.1 dd ht (fun h => kt h H locs ls hl hP hD hS) (fun h => kf h H locs ls hl hP hD hS)
theorem zb_goto (hX : bC B z0 a0 X cc nL own d kc ks) {off : Int} (dd : decode cc pc = .ok (.goto off, 3)) (tgt : Nat) (ht : (pc : Int) + off = (tgt : Int)) (kk : ZB B z0 X P tgt lv st ws k n) : ZB B z0 X P pc lv st ws k n := by
  obtain ⟨p, l, e, R, s, m, args, below, meth, c⟩ := X
  intro H locs ls hl hP hD hS
  exact lv_goto hX.1 hX.2.1 dd ht (kk H locs ls hl hP hD hS)
theorem zb_return (hX : bC B z0 a0 X cc nL own d kc ks) (dd : decode cc pc = .ok (.return_, 1)) (hk : k ≤ kc) (hn : n ≤ ks) (hq : P ws) : ZB B z0 X P pc lv [] ws k n := by
  obtain ⟨p, l, e, R, s, m, args, below, meth, c⟩ := X
  intro H locs ls hl hP hD hS
  obtain ⟨hx, hb, hml, hown, hts, hK, hlk, hrt, hRm, hN, hZ, hz⟩ := hX
  dsimp only at hRm
  subst hRm
  refine W.widen (k := kc) (n := ks) hk hn ?_
  exact W.vret hx hb hrt (fun t ht _ => ⟨rfl, ws, hq, by rw [ht]; exact hP, hD, hS.F ht⟩) hS.2.2 dd hlk
theorem zb_get (hX : bC B z0 a0 X cc nL own d kc ks) {idx ci kf a : Nat} {fs : List Value} {v : Value} (hf : zFld own idx ci kf) (dd : decode cc pc = .ok (.getfield idx, 3)) (q0 : Nat) (he : ws[q0]? = some (a, .inr (ci, fs))) (hv : fs[kf]? = some v) (kk : ZB B z0 X P (pc + 3) lv (v :: st) ws k n) : ZB B z0 X P pc lv (.ref a :: st) ws k n := by
  obtain ⟨p, l, e, R, s, m, args, below, meth, c⟩ := X
  intro H locs ls hl hP hD hS
  obtain ⟨C, T, N, h1, h2, h3, h4⟩ := hf
  exact va_get hX.1 hX.2.1 hX.2.2.2.2.1 h3 hX.2.2.2.1 hX.2.2.2.2.2.1 hP q0 he h1 kf h2 (hX.2.2.2.2.1 _ h4) (fun _ h => h) hv dd (kk H locs ls hl hP hD hS)
theorem zb_put (hX : bC B z0 a0 X cc nL own d kc ks) {idx ci kf a : Nat} {ty : FieldType} {fs : List Value} {v : Value} {ws' : va_W} (hf : zFldP own idx ci kf ty) (dd : decode cc pc = .ok (.putfield idx, 3)) (q0 : Nat) (he : ws[q0]? = some (a, .inr (ci, fs))) (hl0 : kf < fs.length) (hn1 : narrow ty v = v) (hfit : fits ty v = true) (hw : ws.set q0 (a, .inr (ci, fs.set kf v)) = ws') (kk : ZB B z0 X P (pc + 3) lv st ws' k n) : ZB B z0 X P pc lv (v :: .ref a :: st) ws k n := by
  obtain ⟨p, l, e, R, s, m, args, below, meth, c⟩ := X
  subst hw
  intro H locs ls hl hP hD hS
  obtain ⟨C, T, N, ty0, ⟨h1, h2, h3, h4⟩, h5, h6, h7, h8⟩ := hf
  exact va_put hX.1 hX.2.1 hX.2.2.2.2.1 h3 ty0 h5 h6 hX.2.2.2.1 hX.2.2.2.2.2.1 hP hD hS q0 he h1 kf h2 (hX.2.2.2.2.1 _ h4) (fun _ h => h) h7 h8 hn1 hfit hl0 dd (fun H1 locs1 hP1 hD1 hS1 => kk H1 locs1 ls hl hP1 hD1 hS1)
def zFldF (own : String) (idx ci k : Nat) (ty : FieldType) : Prop := ∃ (C : String) (T : u_T) (N : Nat) (ty0 : Nat → FieldType), (vwCl[ci]? = some (C, T, N) ∧ k < N ∧ (∀ w ∈ u_ws C T N, w ∈ zWS) ∧ Cond.fieldLink own idx (T k).1 (T k).2.1 (T k).2.2.1 ∈ zWS) ∧ (∀ k, k < N → parseFieldDescriptor (T k).2.2.1 = some (ty0 k)) ∧ (∀ a, a < N → ∀ b, b < N → a ≠ b → (T a).2.1 ≠ (T b).2.1) ∧ (T k).2.2.2 = true ∧ parseFieldDescriptor (T k).2.2.1 = some ty ∧ (T k).1 = own
theorem zb_putF (hX : bC B z0 a0 X cc nL own d kc ks) (hin : X.2.2.2.2.2.2.2.2.1.name = "<init>") {idx ci kf a : Nat} {ty : FieldType} {fs : List Value} {v : Value} {ws' : va_W} (hf : zFldF own idx ci kf ty) (dd : decode cc pc = .ok (.putfield idx, 3)) (q0 : Nat) (he : ws[q0]? = some (a, .inr (ci, fs))) (hl0 : kf < fs.length) (hn1 : narrow ty v = v) (hfit : fits ty v = true) (hw : ws.set q0 (a, .inr (ci, fs.set kf v)) = ws') (kk : ZB B z0 X P (pc + 3) lv st ws' k n) : ZB B z0 X P pc lv (v :: .ref a :: st) ws k n := by
  obtain ⟨p, l, e, R, s, m, args, below, meth, c⟩ := X
  subst hw
  intro H locs ls hl hP hD hS
  obtain ⟨C, T, N, ty0, ⟨h1, h2, h3, h4⟩, h5, h6, h7, h8, h9⟩ := hf
  exact va_putF hX.1 hX.2.1 hX.2.2.2.2.1 h3 ty0 h5 h6 hX.2.2.2.1 hX.2.2.2.2.2.1 hP hD hS q0 he h1 kf h2 (hX.2.2.2.2.1 _ h4) (fun _ h => h) h7 hin h9 h8 hn1 hfit hl0 dd (fun H1 locs1 hP1 hD1 hS1 => kk H1 locs1 ls hl hP1 hD1 hS1)
theorem zb_iald (hX : bC B z0 a0 X cc nL own d kc ks) {a N : Nat} {f : Nat → Int32} {i : Int32} (dd : decode cc pc = .ok (.iaload, 1)) (q0 : Nat) (he : ws[q0]? = some (a, .inl (B.2 0, N, .inl f))) (hi : vp_in i N) (kk : ZB B z0 X P (pc + 1) lv (.int (f i.toNatClampNeg) :: st) ws k n) : ZB B z0 X P pc lv (.int i :: .ref a :: st) ws k n := by
  obtain ⟨p, l, e, R, s, m, args, below, meth, c⟩ := X
  intro H locs ls hl hP hD hS
  exact va_iald hX.1 hX.2.1 hX.2.2.2.2.2.1 hP q0 0 he rfl hi dd (kk H locs ls hl hP hD hS)
theorem zb_iast (hX : bC B z0 a0 X cc nL own d kc ks) {a N : Nat} {f : Nat → Int32} {i x : Int32} {ws' : va_W} (dd : decode cc pc = .ok (.iastore, 1)) (q0 : Nat) (he : ws[q0]? = some (a, .inl (B.2 0, N, .inl f))) (hi : vp_in i N) (hw : ws.set q0 (a, .inl (B.2 0, N, .inl (upd f i.toNatClampNeg x))) = ws') (kk : ZB B z0 X P (pc + 1) lv st ws' k n) : ZB B z0 X P pc lv (.int x :: .int i :: .ref a :: st) ws k n := by
  obtain ⟨p, l, e, R, s, m, args, below, meth, c⟩ := X
  subst hw
  intro H locs ls hl hP hD hS
  exact va_iast hX.1 hX.2.1 hX.2.2.2.2.2.1 hP hD hS q0 0 he rfl hi dd (fun H1 locs1 hP1 hD1 hS1 => kk H1 locs1 ls hl hP1 hD1 hS1)
theorem zb_zast (hX : bC B z0 a0 X cc nL own d kc ks) {a N : Nat} {f : Nat → Int32} {i x : Int32} {ws' : va_W} (dd : decode cc pc = .ok (.bastore, 1)) (q0 : Nat) (he : ws[q0]? = some (a, .inl (B.2 1, N, .inl f))) (hi : vp_in i N) (hw : ws.set q0 (a, .inl (B.2 1, N, .inl (upd f i.toNatClampNeg (vp_nar .boolean x)))) = ws') (kk : ZB B z0 X P (pc + 1) lv st ws' k n) : ZB B z0 X P pc lv (.int x :: .int i :: .ref a :: st) ws k n := by
  obtain ⟨p, l, e, R, s, m, args, below, meth, c⟩ := X
  subst hw
  intro H locs ls hl hP hD hS
  exact va_zast hX.1 hX.2.1 hX.2.2.2.2.2.1 hP hD hS q0 1 he rfl hi dd (fun H1 locs1 hP1 hD1 hS1 => kk H1 locs1 ls hl hP1 hD1 hS1)
theorem zb_gets (hX : bC B z0 a0 X cc nL own d kc ks) {idx : Nat} (dd : decode cc pc = .ok (.getstatic idx, 3)) (hl : (own, idx, "ColdFeet", "SETTING_WITHOUT", "[I", "ColdFeet") ∈ zNF) (kk : ZB B z0 X P (pc + 3) lv (.ref a0 :: st) ws k n) : ZB B z0 X P pc lv st ws k n := by
  obtain ⟨p, l, e, R, s, m, args, below, meth, c⟩ := X
  intro H locs ls hl' hP hD hS
  obtain ⟨hx, hb, hml, hown, hts, hK, hlk, hrt, hRm, hN, hZ, hz⟩ := hX
  exact va_getsN hx hb hZ.1 hS hown (va_Nw.use rfl (hN.1 _ hl)) (fun _ h => h) dd (kk H locs ls hl' hP hD hS)
end ZBR
