/-! ===== the kit of one memory: abstract cells by ids, a judgement Z over them, a row for each instruction ===== -/
abbrev zM : Type := (Nat → Nat → Int32) × (Nat → Nat → Int64) × (Nat → Nat → Option Nat)
/-- what is fixed in a run: the classes and slots, the array classes by type code, the address of each id -/
abbrev zG : Type := va_G × (Nat → ClassId) × (Nat → Nat)
def zWS : List Cond := lw_tbl.filter goodWord
theorem zin {w : Cond} (h : w ∈ lw_tbl) (g : goodWord w = true) : w ∈ zWS := List.mem_filter.mpr ⟨h, g⟩
theorem zWS_good {w : Cond} (h : w ∈ zWS) : goodWord w = true := (List.mem_filter.mp h).2
def zrv (ad : Nat → Nat) (v : Value) : Value := match v with
  | .ref i => .ref (ad i)
  | v => v
theorem zrv_cat (ad : Nat → Nat) (v : Value) : (zrv ad v).category = v.category := by cases v <;> rfl
def zfv (ad : Nat → Nat) (M : zM) (i k : Nat) (t : Option (Option Nat)) : Value := match t with
  | none => .int (M.1 i k)
  | some none => va_rf ((M.2.2 i k).map ad)
  | some (some j) => .ref (ad j)
def zobj (G : zG) (M : zM) (i : Nat) (nf : Nat) (ft : Nat → Option (Option Nat)) : List Value := (List.range nf).map (fun k => zfv G.2.2 M i k (ft k))
def zcell (G : zG) (M : zM) (i : Nat) : va_E := match zs i with
  | .inl o => .inr (o.1, zobj G M i o.2.1 o.2.2)
  | .inr a => if a.1 = 3 then .inl (G.2.1 3, a.2, .inr (.inl (M.2.1 i))) else .inl (G.2.1 a.1, a.2, .inl (M.1 i))
def zW (G : zG) (M : zM) : va_W := (List.range zN).map (fun i => (G.2.2 i, zcell G M i))
def zR (G : zG) (M : zM) (H : Heap) : Prop := va_P G.1 vwCl (zW G M) H
def zA (G : zG) : Nat → Prop := fun q => ∃ i, i < zN ∧ q = G.2.2 i
def zInj (G : zG) : Prop := ∀ i j, i < zN → j < zN → G.2.2 i = G.2.2 j → i = j
def ztys (G : zG) : List (ClassId × FieldType) := [(G.2.1 0, .int), (G.2.1 1, .boolean), (G.2.1 2, .byte), (G.2.1 3, .long)]
theorem zW_at (G : zG) (M : zM) {i : Nat} (h : i < zN) : (zW G M)[i]? = some (G.2.2 i, zcell G M i) := by
  unfold zW
  rw [List.getElem?_map, List.getElem?_range h]
  rfl
theorem zW_D {G : zG} (hG : zInj G) (M : zM) : va_D (zA G) (zW G M) := by
  have key : ∀ (i : Nat) (p : Nat × va_E), (zW G M)[i]? = some p → i < zN ∧ p.1 = G.2.2 i := by
    intro i p h
    unfold zW at h
    rw [List.getElem?_map] at h
    cases hr : (List.range zN)[i]? with
    | none => rw [hr] at h; cases h
    | some k =>
      rw [hr] at h
      have hk := List.getElem?_eq_some_iff.mp hr
      obtain ⟨h1, h2⟩ := hk
      rw [List.length_range] at h1
      rw [List.getElem_range] at h2
      subst h2
      cases h
      exact ⟨h1, rfl⟩
  refine ⟨fun i j p q hp hq hpq => ?_, fun k q hq => ?_⟩
  · obtain ⟨h1, h2⟩ := key i p hp
    obtain ⟨h3, h4⟩ := key j q hq
    exact hG i j h1 h3 (by rw [← h2, ← h4, hpq])
  · obtain ⟨h1, h2⟩ := key k q hq
    exact ⟨k, h1, h2⟩
theorem zW_set {G : zG} {M M' : zM} {i : Nat} (_h : i < zN) {e : va_E} (h1 : zcell G M' i = e) (h2 : ∀ j, j ≠ i → zcell G M' j = zcell G M j) : (zW G M).set i (G.2.2 i, e) = zW G M' := by
  apply List.ext_getElem?
  intro k
  rw [List.getElem?_set]
  unfold zW
  by_cases hk : i = k
  · subst hk
    rw [if_pos rfl]
    simp only [List.length_map, List.length_range, List.getElem?_map]
    rw [if_pos _h, List.getElem?_range _h]
    simp [h1]
  · rw [if_neg hk]
    simp only [List.getElem?_map]
    by_cases hz : k < zN
    · rw [List.getElem?_range hz]
      simp [h2 k (fun e => hk e.symm)]
    · rw [List.getElem?_eq_none (by simpa using hz)]
      rfl
/-- writes -/
def zI (M : zM) (i j : Nat) (x : Int32) : zM := (fun a b => if a = i ∧ b = j then x else M.1 a b, M.2.1, M.2.2)
def zJ (M : zM) (i j : Nat) (x : Int64) : zM := (M.1, fun a b => if a = i ∧ b = j then x else M.2.1 a b, M.2.2)
def zF (M : zM) (i j : Nat) (x : Nat) : zM := (M.1, M.2.1, fun a b => if a = i ∧ b = j then some x else M.2.2 a b)
theorem zcell_I {G : zG} {M : zM} {i j a : Nat} {x : Int32} (h : a ≠ i) : zcell G (zI M i j x) a = zcell G M a := by
  have e : (zI M i j x).1 a = M.1 a := by funext b; simp [zI, h]
  unfold zcell
  cases zs a with
  | inl o =>
    show Sum.inr (o.1, zobj G (zI M i j x) a o.2.1 o.2.2) = Sum.inr (o.1, zobj G M a o.2.1 o.2.2)
    congr 2
    unfold zobj zfv
    simp only [e]
    rfl
  | inr o => simp only [e]; rfl
theorem zcell_J {G : zG} {M : zM} {i j a : Nat} {x : Int64} (h : a ≠ i) : zcell G (zJ M i j x) a = zcell G M a := by
  have e : (zJ M i j x).2.1 a = M.2.1 a := by funext b; simp [zJ, h]
  unfold zcell
  cases zs a with
  | inl o => rfl
  | inr o => simp only [e]; rfl
theorem zcell_F {G : zG} {M : zM} {i j a : Nat} {x : Nat} (h : a ≠ i) : zcell G (zF M i j x) a = zcell G M a := by
  have e : (zF M i j x).2.2 a = M.2.2 a := by funext b; simp [zF, h]
  unfold zcell
  cases zs a with
  | inl o =>
    show Sum.inr (o.1, zobj G (zF M i j x) a o.2.1 o.2.2) = Sum.inr (o.1, zobj G M a o.2.1 o.2.2)
    congr 2
    unfold zobj zfv
    simp only [e]
    rfl
  | inr o => rfl
/-! what the nest's words and the static arrays say -/
def zNF : List (String × Nat × String × String × String × String) := [("ColdFeet$Plan", 59, "ColdFeet", "SETTING_WITHOUT", "[I", "ColdFeet"), ("ColdFeet$Matching", 18, "ColdFeet$World", "plan", "LColdFeet$Plan;", "ColdFeet"), ("ColdFeet$TextReader", 158, "ColdFeet", "SETTING_MOST", "[I", "ColdFeet")]
def zNMl : List (String × Nat × MethodName × String) := [("ColdFeet$Plan", 54, ⟨"ColdFeet$Laws", "<init>", "()V"⟩, "ColdFeet"), ("ColdFeet$TextReader", 17, ⟨"ColdFeet$TokenCutter", "<init>", "()V"⟩, "ColdFeet"), ("ColdFeet", 53, ⟨"ColdFeet$Deeds", "<init>", "()V"⟩, "ColdFeet"), ("ColdFeet", 60, ⟨"ColdFeet$Sight", "<init>", "()V"⟩, "ColdFeet"), ("ColdFeet", 67, ⟨"ColdFeet$Matching", "<init>", "()V"⟩, "ColdFeet"), ("ColdFeet$TokenCutter", 73, ⟨"ColdFeet", "find", "([III)I"⟩, "ColdFeet"), ("ColdFeet$TextReader", 100, ⟨"ColdFeet", "find", "([III)I"⟩, "ColdFeet"), ("ColdFeet$World", 89, ⟨"ColdFeet", "find", "([III)I"⟩, "ColdFeet")]
def zTx : String := "man thing look crowd heat gust risk seed law dare after hurt or and not fear rue skill looks hot depth step "
def zTb : List Int32 := [109, 97, 110, 32, 116, 104, 105, 110, 103, 32, 108, 111, 111, 107, 32, 99, 114, 111, 119, 100, 32, 104, 101, 97, 116, 32, 103, 117, 115, 116, 32, 114, 105, 115, 107, 32, 115, 101, 101, 100, 32, 108, 97, 119, 32, 100, 97, 114, 101, 32, 97, 102, 116, 101, 114, 32, 104, 117, 114, 116, 32, 111, 114, 32, 97, 110, 100, 32, 110, 111, 116, 32, 102, 101, 97, 114, 32, 114, 117, 101, 32, 115, 107, 105, 108, 108, 32, 108, 111, 111, 107, 115, 32, 104, 111, 116, 32, 100, 101, 112, 116, 104, 32, 115, 116, 101, 112, 32]
def zNest (G : zG) (U : State) : Prop := (∀ q ∈ zNF, va_Nw (.fieldLinkNest q.1 q.2.1 q.2.2.1 q.2.2.2.1 q.2.2.2.2.1 q.2.2.2.2.2) U) ∧ (∀ q ∈ zNMl, va_Nw (.methodLinkNest q.1 q.2.1 q.2.2.1 q.2.2.2) U) ∧ vk_R "ColdFeetModel" 197 zTx (G.2.2 145) U
theorem zNest.warm {G : zG} {s U : State} (hW : s.WarmedH U.vm) (h : zNest G s) : zNest G U := ⟨fun q hq => va_Nw.warmF hW (h.1 q hq), fun q hq => va_Nw.warmM hW (h.2.1 q hq), vk_R.warm hW h.2.2⟩
def zc0 (j : Nat) : Int32 := ([99, 1, 0, 0, 0] : List Int32).getD j 0
def zc1 (j : Nat) : Int32 := ([999, 9, 100, 100, 99999] : List Int32).getD j 0
def zc2 (j : Nat) : Int32 := ([437714944, 679786720, 418884608, 120052864, 273731584, 257544192, 614050816, 642945024, 404455424, 135861248, 40506944, 291065856, 206620672, 626163712, 649376128, 418885216, 284819456, 140005632, 658685952, 522190848, 48365568, 486146048] : List Int32).getD j 0
/-- the three static arrays are the ids 142, 143, 144, the reference's text 145 with its bytes 146: read, never written -/
def zStat (G : zG) (U : State) (H : Heap) : Prop :=
  (va_Z "ColdFeet" "SETTING_WITHOUT" "[I" (.ref (G.2.2 142)) (zA G) U H ∧ va_T .int (G.2.2 142) 5 (fun j => .int (zc0 j)) (zA G) U H) ∧
  (va_Z "ColdFeet" "SETTING_MOST" "[I" (.ref (G.2.2 143)) (zA G) U H ∧ va_T .int (G.2.2 143) 5 (fun j => .int (zc1 j)) (zA G) U H) ∧
  (va_Z "ColdFeet$Token" "WORDS" "[I" (.ref (G.2.2 144)) (zA G) U H ∧ va_T .int (G.2.2 144) 22 (fun j => .int (zc2 j)) (zA G) U H) ∧
  vk_S 1 [108] [zTb] (fun _ => G.2.2 145) (fun _ => G.2.2 146) (zA G) U H ∧ va_Z "java/lang/String" "COMPACT_STRINGS" "Z" (.int 1) (zA G) U H ∧
  (va_Z "jdk/internal/util/Preconditions" "SIOOBE_FORMATTER" "Ljava/util/function/BiFunction;" .null (zA G) U H ∨ va_Z "jdk/internal/util/Preconditions" "SIOOBE_FORMATTER" "Ljava/util/function/BiFunction;" (.ref (G.2.2 147)) (zA G) U H)
theorem zStat.moved {G : zG} {u U : State} {H : Heap} (hvm : u.vm.Alike U.vm) (h : zStat G u H) : zStat G U H :=
  ⟨⟨h.1.1.moved hvm, h.1.2.moved hvm⟩, ⟨h.2.1.1.moved hvm, h.2.1.2.moved hvm⟩, ⟨h.2.2.1.1.moved hvm, h.2.2.1.2.moved hvm⟩, vk_S.moved hvm h.2.2.2.1, h.2.2.2.2.1.moved hvm, h.2.2.2.2.2.imp (fun z => z.moved hvm) (fun z => z.moved hvm)⟩
theorem zStat.kept {G : zG} {U : State} {H H1 : Heap} (h : zStat G U H) (hq : ∀ a : Nat, a < H.size → ¬ zA G a → H1[a]? = H[a]?) : zStat G U H1 :=
  ⟨⟨h.1.1.kept hq, h.1.2.kept hq⟩, ⟨h.2.1.1.kept hq, h.2.1.2.kept hq⟩, ⟨h.2.2.1.1.kept hq, h.2.2.1.2.kept hq⟩, vk_S.kept h.2.2.2.1 hq, h.2.2.2.2.1.kept hq, h.2.2.2.2.2.imp (fun z => z.kept hq) (fun z => z.kept hq)⟩
/-! contracts -/
/-- a method: its name, code, locals, answer's type, number of parameters -/
abbrev zT : Type := MethodName × ByteArray × Nat × Option FieldType × Nat
def zr (d : Nat) : Room := { frames := d, cells := 0, slots := 0, locals := 40 * d }
def zw (t : zT) : List Cond := Cond.code t.1 t.2.1 t.2.2.1 t.2.2.2.1 :: zWS
def zPc (G : zG) (av : List Value) (M : zM) : Array Value → State → Prop := fun a U => a = (av.map (zrv G.2.2)).toArray ∧ zInj G ∧ zR G M U.heap ∧ va_K G.1 vwCl (ztys G) U ∧ zNest G U ∧ zStat G U U.heap
def zQc (G : zG) (Q : Option Value → zM → Prop) : Array Value → State → Outcome → State → Prop := fun _ st o t => ∃ (r : Option Value) (M' : zM), o = .returned (r.map (zrv G.2.2)) ∧ Q r M' ∧ zR G M' t.heap ∧ va_F (zA G) st t
def Ct (G : zG) (d : Nat) (t : zT) (av : List Value) (M : zM) (Q : Option Value → zM → Prop) : Prop := ∀ l : Launch, Met l t.1 (zw t) (zr d) (zPc G av M) (zQc G Q) 0 0 (zA G)
theorem zPc_blind (G : zG) (av : List Value) (M : zM) : FrameBlind (zPc G av M) := by
  intro a U g mk h
  obtain ⟨h1, h2, h3, h4, h5, h6⟩ := h
  refine ⟨h1, h2, h3, va_K.moved (u := U) (U := U.calling g mk a) (Vm.Alike.refl U.vm) h4, ?_, zStat.moved (u := U) (U := U.calling g mk a) (Vm.Alike.refl U.vm) h6⟩
  exact ⟨fun q hq => va_Nw.same rfl rfl (h5.1 q hq), fun q hq => va_Nw.same rfl rfl (h5.2.1 q hq), vk_R.same (u := U) rfl h5.2.2⟩
theorem Ct.mono {G : zG} {d : Nat} {t : zT} {av : List Value} {M : zM} {Q Q' : Option Value → zM → Prop} (h : Ct G d t av M Q) (hq : ∀ r M', Q r M' → Q' r M') : Ct G d t av M Q' := by
  intro l
  have h1 := h l
  unfold Met at h1 ⊢
  intro p e ha hc hk s m args below hf hap hP hK
  obtain ⟨k, o, a1, a2, a3, ⟨r, M', b1, b2, b3, b4⟩, b5⟩ := h1 p e ha hc hk s m args below hf hap hP hK
  exact ⟨k, o, a1, a2, a3, ⟨r, M', b1, hq _ _ b2, b3, b4⟩, b5⟩
/-! the judgement -/
abbrev zX : Type := Program × Launch × Env × Room × State × MethodId × Array Value × List Frame × Method × Code
def zC (G : zG) (X : zX) (cc : ByteArray) (nL : Nat) (own : String) (rt : Option FieldType) (d : Nat) : Prop :=
  X.1.tables.exec = Jvm.exec ∧ X.2.2.2.2.2.2.2.2.2.code = cc ∧ X.2.2.2.2.2.2.2.2.2.maxLocals = nL ∧ X.2.2.2.2.1.vm.findClass own = some X.2.2.2.2.2.1.cls ∧ (∀ w ∈ zWS, w.before X.2.2.2.2.2.2.1 X.2.2.2.2.1 = true) ∧ va_K G.1 vwCl (ztys G) X.2.2.2.2.1 ∧ zInj G ∧ X.2.2.2.2.2.2.2.2.1.locks = false ∧ X.2.2.2.2.2.2.2.2.1.sig.returnType = rt ∧ X.2.2.2.1 = zr d ∧ zNest G X.2.2.2.2.1 ∧ zStat G X.2.2.2.2.1 X.2.2.2.2.1.heap
def zL (G : zG) (ls : Array Slot) (nL : Nat) (lv : List (Option Value)) : Prop := ls.size = nL ∧ lv_wf ls ∧ ∀ (i : Nat) (v : Value), lv[i]? = some (some v) → ls[i]? = some (.val (zrv G.2.2 v))
def Z (G : zG) (X : zX) (Q : Option Value → zM → Prop) (pc : Nat) (lv : List (Option Value)) (st : List Value) (M : zM) : Prop :=
  ∀ (H : Heap) (locs : List Loc) (ls : Array Slot), zL G ls X.2.2.2.2.2.2.2.2.2.maxLocals lv → zR G M H → va_S (zA G) X.2.2.2.2.1.heap H locs →
    W X.1 X.2.1 X.2.2.1 X.2.2.2.1 X.2.2.2.2.1 X.2.2.2.2.2.1 X.2.2.2.2.2.2.1 X.2.2.2.2.2.2.2.1 X.2.2.2.2.2.2.2.2.1 X.2.2.2.2.2.2.2.2.2 H locs 0 0
      (MQ X.2.2.2.2.2.2.2.1 (zQc G Q) X.2.2.2.2.2.2.1 X.2.2.2.2.1 0 0 (zA G)) (F0 X.2.2.2.2.2.1 pc ls (st.map (zrv G.2.2)))
/-- locals at a method's entry -/
def zargs : List Value → List (Option Value)
  | [] => []
  | v :: vs => if v.category = 2 then some v :: none :: zargs vs else some v :: zargs vs
theorem zargs_ok (ad : Nat → Nat) (vs : List Value) : ∀ (b i : Nat) (v : Value), (zargs vs)[i]? = some (some v) → (b + i, zrv ad v) ∈ lv_args b (vs.map (zrv ad)) := by
  induction vs with
  | nil => intro b i v h; simp [zargs] at h
  | cons x xs ih =>
    intro b i v h
    unfold zargs at h
    simp only [List.map_cons, lv_args, zrv_cat]
    by_cases hc : x.category = 2
    · rw [if_pos hc] at h ⊢
      match i, h with
      | 0, h => simp at h; subst h; exact List.mem_cons_self
      | 1, h => simp at h
      | i + 2, h =>
        have := ih (b + 2) i v (by simpa using h)
        rw [show b + (i + 2) = b + 2 + i by omega]
        exact List.mem_cons_of_mem _ this
    · rw [if_neg hc] at h ⊢
      match i, h with
      | 0, h => simp at h; subst h; exact List.mem_cons_self
      | i + 1, h =>
        have := ih (b + 1) i v (by simpa using h)
        rw [show b + (i + 1) = b + 1 + i by omega]
        exact List.mem_cons_of_mem _ this
theorem zargs_len (ad : Nat → Nat) (vs : List Value) : (lg_sl (vs.map (zrv ad))).length = (zargs vs).length := by
  induction vs with
  | nil => rfl
  | cons x xs ih =>
    unfold zargs
    simp only [lg_sl, List.map_cons, List.flatMap_cons, List.length_append, zrv_cat] at ih ⊢
    by_cases hc : x.category = 2
    · simp [hc, ih]; omega
    · simp [hc, ih]; omega
theorem zpad {lv : List (Option Value)} {n i : Nat} {v : Value} (h : (lv ++ List.replicate n none)[i]? = some (some v)) : lv[i]? = some (some v) := by
  rw [List.getElem?_append] at h
  split at h
  · exact h
  · rw [List.getElem?_replicate] at h
    split at h <;> cases h
/-- a contract out of a walk -/
theorem Ct.of {G : zG} {d : Nat} {t : zT} {av : List Value} {M : zM} {Q : Option Value → zM → Prop} {y : MethodName} {cc : ByteArray} {nL np : Nat} {rt : Option FieldType} (ht : t = (y, cc, nL, rt, np)) (hy : plainName y.cls = true) (hlen : (zargs av).length ≤ nL)
    (body : ∀ X : zX, zC G X cc nL y.cls rt d → Z G X Q 0 (zargs av ++ List.replicate (nL - (zargs av).length) none) [] M) : Ct G d t av M Q := by
  subst ht
  intro l
  refine Met.ofW (cc := cc) (maxL := nL) (ret := rt) hy rfl ?_
  intro p e s m args below meth c s₁ B hml hv
  obtain ⟨rfl, hinj, hP, hK, hN, hZ⟩ := hv
  have hts := atoms_spec (ws := zw (y, cc, nL, rt, np)) B.pre
  have hown : s.vm.findClass y.cls = some m.cls := findClass_of_methodNamed B.named
  have hC : zC G (p, l, e, zr d, s, m, (av.map (zrv G.2.2)).toArray, below, meth, c) cc nL y.cls rt d :=
    ⟨B.exec, B.bytes, hml, hown, fun w hw => hts w (List.mem_cons_of_mem _ hw), hK, hinj, B.notSynchronized, B.returns, rfl, hN, hZ⟩
  rw [lg_entry_eq]
  have hl := lv_entry (av.map (zrv G.2.2)) (n := nL) (by rw [zargs_len]; exact hlen)
  refine body _ hC s.heap [] _ ?_ hP va_S.rf
  refine ⟨by rw [hl.1]; exact hml.symm, hl.2.1, fun i v h => ?_⟩
  have h1 := zargs_ok G.2.2 av 0 i v (zpad h)
  rw [Nat.zero_add] at h1
  exact hl.2.2 _ h1
