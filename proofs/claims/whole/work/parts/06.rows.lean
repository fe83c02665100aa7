section ZR
variable {G : zG} {X : zX} {Q : Option Value → zM → Prop} {cc : ByteArray} {nL dd pc : Nat} {own : String} {rt : Option FieldType} {lv : List (Option Value)} {st : List Value} {M : zM}
theorem z_iconst (hX : zC G X cc nL own rt dd) {k : Int} {v : Int32} (d : decode cc pc = .ok (.iconst k, 1)) (hv : Int32.ofInt k = v) (n : Nat) (hn : pc + 1 = n) (kk : Z G X Q n lv (.int v :: st) M) : Z G X Q pc lv (st) M := by
  obtain ⟨p, l, e, R, s, m, args, below, meth, c⟩ := X
  subst hn
  intro H locs ls hl hR hS
  exact lv_iconst hX.1 hX.2.1 d hv (kk H locs ls hl hR hS)
theorem z_bipush (hX : zC G X cc nL own rt dd) {k : Int} {v : Int32} (d : decode cc pc = .ok (.bipush k, 2)) (hv : (Int8.ofInt k).toInt32 = v) (n : Nat) (hn : pc + 2 = n) (kk : Z G X Q n lv (.int v :: st) M) : Z G X Q pc lv (st) M := by
  obtain ⟨p, l, e, R, s, m, args, below, meth, c⟩ := X
  subst hn
  intro H locs ls hl hR hS
  exact lv_bipush hX.1 hX.2.1 d hv (kk H locs ls hl hR hS)
theorem z_sipush (hX : zC G X cc nL own rt dd) {k : Int} {v : Int32} (d : decode cc pc = .ok (.sipush k, 3)) (hv : (Int16.ofInt k).toInt32 = v) (n : Nat) (hn : pc + 3 = n) (kk : Z G X Q n lv (.int v :: st) M) : Z G X Q pc lv (st) M := by
  obtain ⟨p, l, e, R, s, m, args, below, meth, c⟩ := X
  subst hn
  intro H locs ls hl hR hS
  exact lv_sipush hX.1 hX.2.1 d hv (kk H locs ls hl hR hS)
theorem z_lconst (hX : zC G X cc nL own rt dd) {k : Fin 2} {v : Int64} (d : decode cc pc = .ok (.lconst k, 1)) (hv : Int64.ofNat (k : Nat) = v) (n : Nat) (hn : pc + 1 = n) (kk : Z G X Q n lv (.long v :: st) M) : Z G X Q pc lv (st) M := by
  obtain ⟨p, l, e, R, s, m, args, below, meth, c⟩ := X
  subst hn
  intro H locs ls hl hR hS
  exact lv_lconst hX.1 hX.2.1 d hv (kk H locs ls hl hR hS)
theorem z_ldc (hX : zC G X cc nL own rt dd) {idx : Nat} {v : Int32} (d : decode cc pc = .ok (.ldc idx, 2)) (hw : Cond.constant own idx v ∈ zWS) (n : Nat) (hn : pc + 2 = n) (kk : Z G X Q n lv (.int v :: st) M) : Z G X Q pc lv st M := by
  obtain ⟨p, l, e, R, s, m, args, below, meth, c⟩ := X
  subst hn
  intro H locs ls hl hR hS
  exact lv_ldc hX.1 hX.2.1 hX.2.2.2.1 (hX.2.2.2.2.1 _ hw) d (kk H locs ls hl hR hS)
theorem z_ldcw (hX : zC G X cc nL own rt dd) {idx : Nat} {v : Int32} (d : decode cc pc = .ok (.ldc_w idx, 3)) (hw : Cond.constant own idx v ∈ zWS) (n : Nat) (hn : pc + 3 = n) (kk : Z G X Q n lv (.int v :: st) M) : Z G X Q pc lv st M := by
  obtain ⟨p, l, e, R, s, m, args, below, meth, c⟩ := X
  subst hn
  intro H locs ls hl hR hS
  exact lv_ldcw hX.1 hX.2.1 hX.2.2.2.1 (hX.2.2.2.2.1 _ hw) d (kk H locs ls hl hR hS)
theorem z_ldc2 (hX : zC G X cc nL own rt dd) {idx : Nat} {v : Int64} (d : decode cc pc = .ok (.ldc2_w idx, 3)) (hw : Cond.constantLong own idx v ∈ zWS) (n : Nat) (hn : pc + 3 = n) (kk : Z G X Q n lv (.long v :: st) M) : Z G X Q pc lv st M := by
  obtain ⟨p, l, e, R, s, m, args, below, meth, c⟩ := X
  subst hn
  intro H locs ls hl hR hS
  exact lv_ldc2 hX.1 hX.2.1 hX.2.2.2.1 (hX.2.2.2.2.1 _ hw) d (kk H locs ls hl hR hS)
theorem z_iload_n (hX : zC G X cc nL own rt dd) {k : Fin 4} {x : Int32} (d : decode cc pc = .ok (.iload_n k, 1)) (h : lv[(k : Nat)]? = some (some (.int x))) (n : Nat) (hn : pc + 1 = n) (kk : Z G X Q n lv (.int x :: st) M) : Z G X Q pc lv st M := by
  obtain ⟨p, l, e, R, s, m, args, below, meth, c⟩ := X
  subst hn
  intro H locs ls hl hR hS
  exact lv_iload_n hX.1 hX.2.1 d rfl (hl.2.2 _ _ h) (kk H locs ls hl hR hS)
theorem z_iload (hX : zC G X cc nL own rt dd) {k : Nat} {x : Int32} (d : decode cc pc = .ok (.iload k, 2)) (h : lv[k]? = some (some (.int x))) (n : Nat) (hn : pc + 2 = n) (kk : Z G X Q n lv (.int x :: st) M) : Z G X Q pc lv st M := by
  obtain ⟨p, l, e, R, s, m, args, below, meth, c⟩ := X
  subst hn
  intro H locs ls hl hR hS
  exact lv_iload hX.1 hX.2.1 d (hl.2.2 _ _ h) (kk H locs ls hl hR hS)
theorem z_lload_n (hX : zC G X cc nL own rt dd) {k : Fin 4} {x : Int64} (d : decode cc pc = .ok (.lload_n k, 1)) (h : lv[(k : Nat)]? = some (some (.long x))) (n : Nat) (hn : pc + 1 = n) (kk : Z G X Q n lv (.long x :: st) M) : Z G X Q pc lv st M := by
  obtain ⟨p, l, e, R, s, m, args, below, meth, c⟩ := X
  subst hn
  intro H locs ls hl hR hS
  exact lv_lload_n hX.1 hX.2.1 d rfl (hl.2.2 _ _ h) (kk H locs ls hl hR hS)
theorem z_lload (hX : zC G X cc nL own rt dd) {k : Nat} {x : Int64} (d : decode cc pc = .ok (.lload k, 2)) (h : lv[k]? = some (some (.long x))) (n : Nat) (hn : pc + 2 = n) (kk : Z G X Q n lv (.long x :: st) M) : Z G X Q pc lv st M := by
  obtain ⟨p, l, e, R, s, m, args, below, meth, c⟩ := X
  subst hn
  intro H locs ls hl hR hS
  exact lv_lload hX.1 hX.2.1 d (hl.2.2 _ _ h) (kk H locs ls hl hR hS)
theorem z_aload_n (hX : zC G X cc nL own rt dd) {k : Fin 4} {x : Nat} (d : decode cc pc = .ok (.aload_n k, 1)) (h : lv[(k : Nat)]? = some (some (.ref x))) (n : Nat) (hn : pc + 1 = n) (kk : Z G X Q n lv (.ref x :: st) M) : Z G X Q pc lv st M := by
  obtain ⟨p, l, e, R, s, m, args, below, meth, c⟩ := X
  subst hn
  intro H locs ls hl hR hS
  exact lv_aload_n hX.1 hX.2.1 d rfl (hl.2.2 _ _ h) (kk H locs ls hl hR hS)
theorem z_aload (hX : zC G X cc nL own rt dd) {k : Nat} {x : Nat} (d : decode cc pc = .ok (.aload k, 2)) (h : lv[k]? = some (some (.ref x))) (n : Nat) (hn : pc + 2 = n) (kk : Z G X Q n lv (.ref x :: st) M) : Z G X Q pc lv st M := by
  obtain ⟨p, l, e, R, s, m, args, below, meth, c⟩ := X
  subst hn
  intro H locs ls hl hR hS
  exact lv_aload hX.1 hX.2.1 d (hl.2.2 _ _ h) (kk H locs ls hl hR hS)
def zinv (lv : List (Option Value)) (i : Nat) : List (Option Value) := match i with
  | 0 => lv
  | j + 1 => match lv[j]? with
    | some (some w) => if w.category = 2 then lv.set j none else lv
    | _ => lv
def zp1 (lv : List (Option Value)) (i : Nat) (v : Value) : List (Option Value) := (zinv lv i).set i (some v)
def zp2 (lv : List (Option Value)) (i : Nat) (v : Value) : List (Option Value) := ((zinv lv i).set i (some v)).set (i + 1) none
def zpairs (G : zG) (lv : List (Option Value)) : List (Nat × Value) := (List.range lv.length).filterMap (fun j => match lv[j]? with
  | some (some w) => some (j, zrv G.2.2 w)
  | _ => none)
theorem zpairs_mem {G : zG} {lv : List (Option Value)} {k : Nat} {w : Value} (h : lv[k]? = some (some w)) : (k, zrv G.2.2 w) ∈ zpairs G lv := by
  refine List.mem_filterMap.mpr ⟨k, ?_, by rw [h]⟩
  exact List.mem_range.mpr (List.getElem?_eq_some_iff.mp h).1
theorem zpairs_has {G : zG} {lv : List (Option Value)} {ls : Array Slot} {nL : Nat} (h : zL G ls nL lv) : lv_has ls nL (zpairs G lv) := by
  refine ⟨h.1, h.2.1, fun q hq => ?_⟩
  obtain ⟨j, -, hj⟩ := List.mem_filterMap.mp hq
  cases hw : lv[j]? with
  | none => rw [hw] at hj; cases hj
  | some o =>
    cases o with
    | none => rw [hw] at hj; cases hj
    | some w =>
      rw [hw] at hj
      cases hj
      exact h.2.2 j w hw
theorem zinv_at {lv : List (Option Value)} {i k : Nat} {w : Value} (h : (zinv lv i)[k]? = some (some w)) : lv[k]? = some (some w) ∧ ¬ (k + 1 = i ∧ w.category = 2) := by
  cases i with
  | zero => exact ⟨h, fun z => by omega⟩
  | succ j =>
    unfold zinv at h
    dsimp only at h
    cases hj : lv[j]? with
    | none =>
      rw [hj] at h
      refine ⟨h, fun z => ?_⟩
      have : k = j := by omega
      subst this
      rw [hj] at h; cases h
    | some o =>
      rw [hj] at h
      cases o with
      | none =>
        refine ⟨h, fun z => ?_⟩
        have : k = j := by omega
        subst this
        rw [hj] at h; cases h
      | some u =>
        dsimp only at h
        by_cases hc : u.category = 2
        · rw [if_pos hc, List.getElem?_set] at h
          by_cases hk : j = k
          · rw [if_pos hk] at h
            split at h <;> cases h
          · rw [if_neg hk] at h
            exact ⟨h, fun z => hk (by omega)⟩
        · rw [if_neg hc] at h
          refine ⟨h, fun z => ?_⟩
          have : k = j := by omega
          subst this
          rw [hj] at h
          cases h
          exact hc z.2
theorem zL_put1 {G : zG} {ls' : Array Slot} {nL i : Nat} {lv : List (Option Value)} {v : Value} (h' : lv_has ls' nL ((i, zrv G.2.2 v) :: (zpairs G lv).filter (fun q => !(q.1 == i) && !(q.1 + 1 == i && q.2.category == 2)))) : zL G ls' nL (zp1 lv i v) := by
  refine ⟨h'.1, h'.2.1, fun k w hk => ?_⟩
  unfold zp1 at hk
  rw [List.getElem?_set] at hk
  by_cases hi : i = k
  · rw [if_pos hi] at hk
    split at hk
    · cases hk
      subst hi
      exact h'.2.2 (i, zrv G.2.2 v) List.mem_cons_self
    · cases hk
  · rw [if_neg hi] at hk
    obtain ⟨h1, h2⟩ := zinv_at hk
    refine h'.2.2 (k, zrv G.2.2 w) (List.mem_cons_of_mem _ (List.mem_filter.mpr ⟨zpairs_mem h1, ?_⟩))
    simp only [zrv_cat, Bool.and_eq_true, Bool.not_eq_true', beq_eq_false_iff_ne, Bool.and_eq_false_iff]
    refine ⟨fun z => hi z.symm, ?_⟩
    by_cases hz : k + 1 = i
    · exact Or.inr (fun z => h2 ⟨hz, z⟩)
    · exact Or.inl hz
theorem zL_put2 {G : zG} {ls' : Array Slot} {nL i : Nat} {lv : List (Option Value)} {v : Value} (h' : lv_has ls' nL ((i, zrv G.2.2 v) :: (zpairs G lv).filter (fun q => !(q.1 == i) && (!(q.1 == i + 1) && !(q.1 + 1 == i && q.2.category == 2))))) : zL G ls' nL (zp2 lv i v) := by
  refine ⟨h'.1, h'.2.1, fun k w hk => ?_⟩
  unfold zp2 at hk
  rw [List.getElem?_set] at hk
  by_cases hi1 : i + 1 = k
  · rw [if_pos hi1] at hk
    split at hk <;> cases hk
  · rw [if_neg hi1, List.getElem?_set] at hk
    by_cases hi : i = k
    · rw [if_pos hi] at hk
      split at hk
      · cases hk
        subst hi
        exact h'.2.2 (i, zrv G.2.2 v) List.mem_cons_self
      · cases hk
    · rw [if_neg hi] at hk
      obtain ⟨h1, h2⟩ := zinv_at hk
      refine h'.2.2 (k, zrv G.2.2 w) (List.mem_cons_of_mem _ (List.mem_filter.mpr ⟨zpairs_mem h1, ?_⟩))
      simp only [zrv_cat, Bool.and_eq_true, Bool.not_eq_true', beq_eq_false_iff_ne, Bool.and_eq_false_iff]
      refine ⟨fun z => hi z.symm, fun z => hi1 z.symm, ?_⟩
      by_cases hz : k + 1 = i
      · exact Or.inr (fun z => h2 ⟨hz, z⟩)
      · exact Or.inl hz
theorem z_istore_n (hX : zC G X cc nL own rt dd) {k : Fin 4} {x : Int32} (d : decode cc pc = .ok (.istore_n k, 1)) (hk : (k : Nat) < nL) (n : Nat) (hn : pc + 1 = n) (kk : Z G X Q n (zp1 lv (k : Nat) (.int x)) st M) : Z G X Q pc lv (.int x :: st) M := by
  obtain ⟨p, l, e, R, s, m, args, below, meth, c⟩ := X
  subst hn
  intro H locs ls hl hR hS
  exact lv_istore_n hX.1 hX.2.1 d rfl (zpairs_has hl) (by rw [hX.2.2.1]; exact hk) rfl (fun ls' h' => kk H locs ls' (zL_put1 h') hR hS)
theorem z_istore (hX : zC G X cc nL own rt dd) {k : Nat} {x : Int32} (d : decode cc pc = .ok (.istore k, 2)) (hk : k < nL) (n : Nat) (hn : pc + 2 = n) (kk : Z G X Q n (zp1 lv k (.int x)) st M) : Z G X Q pc lv (.int x :: st) M := by
  obtain ⟨p, l, e, R, s, m, args, below, meth, c⟩ := X
  subst hn
  intro H locs ls hl hR hS
  exact lv_istore hX.1 hX.2.1 d (zpairs_has hl) (by rw [hX.2.2.1]; exact hk) rfl (fun ls' h' => kk H locs ls' (zL_put1 h') hR hS)
theorem z_lstore_n (hX : zC G X cc nL own rt dd) {k : Fin 4} {x : Int64} (d : decode cc pc = .ok (.lstore_n k, 1)) (hk : (k : Nat) + 1 < nL) (n : Nat) (hn : pc + 1 = n) (kk : Z G X Q n (zp2 lv (k : Nat) (.long x)) st M) : Z G X Q pc lv (.long x :: st) M := by
  obtain ⟨p, l, e, R, s, m, args, below, meth, c⟩ := X
  subst hn
  intro H locs ls hl hR hS
  exact lv_lstore_n hX.1 hX.2.1 d rfl (zpairs_has hl) (by rw [hX.2.2.1]; exact hk) rfl (fun ls' h' => kk H locs ls' (zL_put2 h') hR hS)
theorem z_lstore (hX : zC G X cc nL own rt dd) {k : Nat} {x : Int64} (d : decode cc pc = .ok (.lstore k, 2)) (hk : k + 1 < nL) (n : Nat) (hn : pc + 2 = n) (kk : Z G X Q n (zp2 lv k (.long x)) st M) : Z G X Q pc lv (.long x :: st) M := by
  obtain ⟨p, l, e, R, s, m, args, below, meth, c⟩ := X
  subst hn
  intro H locs ls hl hR hS
  exact lv_lstore hX.1 hX.2.1 d (zpairs_has hl) (by rw [hX.2.2.1]; exact hk) rfl (fun ls' h' => kk H locs ls' (zL_put2 h') hR hS)
theorem z_astore_n (hX : zC G X cc nL own rt dd) {k : Fin 4} {x : Nat} (d : decode cc pc = .ok (.astore_n k, 1)) (hk : (k : Nat) < nL) (n : Nat) (hn : pc + 1 = n) (kk : Z G X Q n (zp1 lv (k : Nat) (.ref x)) st M) : Z G X Q pc lv (.ref x :: st) M := by
  obtain ⟨p, l, e, R, s, m, args, below, meth, c⟩ := X
  subst hn
  intro H locs ls hl hR hS
  exact lv_astore_n hX.1 hX.2.1 d rfl (zpairs_has hl) (by rw [hX.2.2.1]; exact hk) rfl (fun ls' h' => kk H locs ls' (zL_put1 h') hR hS)
theorem z_astore (hX : zC G X cc nL own rt dd) {k : Nat} {x : Nat} (d : decode cc pc = .ok (.astore k, 2)) (hk : k < nL) (n : Nat) (hn : pc + 2 = n) (kk : Z G X Q n (zp1 lv k (.ref x)) st M) : Z G X Q pc lv (.ref x :: st) M := by
  obtain ⟨p, l, e, R, s, m, args, below, meth, c⟩ := X
  subst hn
  intro H locs ls hl hR hS
  exact lv_astore hX.1 hX.2.1 d (zpairs_has hl) (by rw [hX.2.2.1]; exact hk) rfl (fun ls' h' => kk H locs ls' (zL_put1 h') hR hS)
theorem z_iinc (hX : zC G X cc nL own rt dd) {i : Nat} {k : Int} {x v : Int32} (d : decode cc pc = .ok (.iinc i k, 3)) (h : lv[i]? = some (some (.int x))) (hv : x + Int32.ofInt k = v) (hk : i < nL) (n : Nat) (hn : pc + 3 = n) (kk : Z G X Q n (zp1 lv i (.int v)) st M) : Z G X Q pc lv st M := by
  obtain ⟨p, l, e, R, s, m, args, below, meth, c⟩ := X
  subst hn
  intro H locs ls hl hR hS
  obtain ⟨j, hj⟩ := List.getElem?_of_mem (zpairs_mem (G := G) h)
  exact lv_iinc hX.1 hX.2.1 d (zpairs_has hl) (k := j) hj hv (by rw [hX.2.2.1]; exact hk) rfl (fun ls' h' => kk H locs ls' (zL_put1 h') hR hS)
theorem z_iadd (hX : zC G X cc nL own rt dd) {x y : Int32} (d : decode cc pc = .ok (.iadd, 1))  (n : Nat) (hn : pc + 1 = n) (kk : Z G X Q n lv (.int (x + y) :: st) M) : Z G X Q pc lv (.int y :: .int x :: st) M := by
  obtain ⟨p, l, e, R, s, m, args, below, meth, c⟩ := X
  subst hn
  intro H locs ls hl hR hS
  exact lv_iadd hX.1 hX.2.1 d  (kk H locs ls hl hR hS)
theorem z_isub (hX : zC G X cc nL own rt dd) {x y : Int32} (d : decode cc pc = .ok (.isub, 1))  (n : Nat) (hn : pc + 1 = n) (kk : Z G X Q n lv (.int (x - y) :: st) M) : Z G X Q pc lv (.int y :: .int x :: st) M := by
  obtain ⟨p, l, e, R, s, m, args, below, meth, c⟩ := X
  subst hn
  intro H locs ls hl hR hS
  exact lv_isub hX.1 hX.2.1 d  (kk H locs ls hl hR hS)
theorem z_imul (hX : zC G X cc nL own rt dd) {x y : Int32} (d : decode cc pc = .ok (.imul, 1))  (n : Nat) (hn : pc + 1 = n) (kk : Z G X Q n lv (.int (x * y) :: st) M) : Z G X Q pc lv (.int y :: .int x :: st) M := by
  obtain ⟨p, l, e, R, s, m, args, below, meth, c⟩ := X
  subst hn
  intro H locs ls hl hR hS
  exact lv_imul hX.1 hX.2.1 d  (kk H locs ls hl hR hS)
theorem z_iand (hX : zC G X cc nL own rt dd) {x y : Int32} (d : decode cc pc = .ok (.iand, 1))  (n : Nat) (hn : pc + 1 = n) (kk : Z G X Q n lv (.int (x &&& y) :: st) M) : Z G X Q pc lv (.int y :: .int x :: st) M := by
  obtain ⟨p, l, e, R, s, m, args, below, meth, c⟩ := X
  subst hn
  intro H locs ls hl hR hS
  exact lv_iand hX.1 hX.2.1 d  (kk H locs ls hl hR hS)
theorem z_ior (hX : zC G X cc nL own rt dd) {x y : Int32} (d : decode cc pc = .ok (.ior, 1))  (n : Nat) (hn : pc + 1 = n) (kk : Z G X Q n lv (.int (x ||| y) :: st) M) : Z G X Q pc lv (.int y :: .int x :: st) M := by
  obtain ⟨p, l, e, R, s, m, args, below, meth, c⟩ := X
  subst hn
  intro H locs ls hl hR hS
  exact lv_ior hX.1 hX.2.1 d  (kk H locs ls hl hR hS)
theorem z_ixor (hX : zC G X cc nL own rt dd) {x y : Int32} (d : decode cc pc = .ok (.ixor, 1))  (n : Nat) (hn : pc + 1 = n) (kk : Z G X Q n lv (.int (x ^^^ y) :: st) M) : Z G X Q pc lv (.int y :: .int x :: st) M := by
  obtain ⟨p, l, e, R, s, m, args, below, meth, c⟩ := X
  subst hn
  intro H locs ls hl hR hS
  exact lv_ixor hX.1 hX.2.1 d  (kk H locs ls hl hR hS)
theorem z_ishl (hX : zC G X cc nL own rt dd) {x y : Int32} (d : decode cc pc = .ok (.ishl, 1))  (n : Nat) (hn : pc + 1 = n) (kk : Z G X Q n lv (.int (x <<< (y &&& 31)) :: st) M) : Z G X Q pc lv (.int y :: .int x :: st) M := by
  obtain ⟨p, l, e, R, s, m, args, below, meth, c⟩ := X
  subst hn
  intro H locs ls hl hR hS
  exact lv_ishl hX.1 hX.2.1 d  (kk H locs ls hl hR hS)
theorem z_ishr (hX : zC G X cc nL own rt dd) {x y : Int32} (d : decode cc pc = .ok (.ishr, 1))  (n : Nat) (hn : pc + 1 = n) (kk : Z G X Q n lv (.int (x >>> (y &&& 31)) :: st) M) : Z G X Q pc lv (.int y :: .int x :: st) M := by
  obtain ⟨p, l, e, R, s, m, args, below, meth, c⟩ := X
  subst hn
  intro H locs ls hl hR hS
  exact lv_ishr hX.1 hX.2.1 d  (kk H locs ls hl hR hS)
theorem z_idiv (hX : zC G X cc nL own rt dd) {x y : Int32} (d : decode cc pc = .ok (.idiv, 1)) (h0 : ¬ y = 0) (n : Nat) (hn : pc + 1 = n) (kk : Z G X Q n lv (.int (x / y) :: st) M) : Z G X Q pc lv (.int y :: .int x :: st) M := by
  obtain ⟨p, l, e, R, s, m, args, below, meth, c⟩ := X
  subst hn
  intro H locs ls hl hR hS
  exact lv_idiv hX.1 hX.2.1 d h0 (kk H locs ls hl hR hS)
theorem z_irem (hX : zC G X cc nL own rt dd) {x y : Int32} (d : decode cc pc = .ok (.irem, 1)) (h0 : ¬ y = 0) (n : Nat) (hn : pc + 1 = n) (kk : Z G X Q n lv (.int (x - x / y * y) :: st) M) : Z G X Q pc lv (.int y :: .int x :: st) M := by
  obtain ⟨p, l, e, R, s, m, args, below, meth, c⟩ := X
  subst hn
  intro H locs ls hl hR hS
  exact lv_irem hX.1 hX.2.1 d h0 (kk H locs ls hl hR hS)
theorem z_ineg (hX : zC G X cc nL own rt dd) {x : Int32} (d : decode cc pc = .ok (.ineg, 1))  (n : Nat) (hn : pc + 1 = n) (kk : Z G X Q n lv (.int (-x) :: st) M) : Z G X Q pc lv (.int x :: st) M := by
  obtain ⟨p, l, e, R, s, m, args, below, meth, c⟩ := X
  subst hn
  intro H locs ls hl hR hS
  exact lv_ineg hX.1 hX.2.1 d  (kk H locs ls hl hR hS)
theorem z_iushr (hX : zC G X cc nL own rt dd) {x y : Int32} (d : decode cc pc = .ok (.iushr, 1))  (n : Nat) (hn : pc + 1 = n) (kk : Z G X Q n lv (.int ((x.toUInt32 >>> (y.toUInt32 &&& Int32.toUInt32 31)).toInt32) :: st) M) : Z G X Q pc lv (.int y :: .int x :: st) M := by
  obtain ⟨p, l, e, R, s, m, args, below, meth, c⟩ := X
  subst hn
  intro H locs ls hl hR hS
  exact lv_iushr hX.1 hX.2.1 d rfl (kk H locs ls hl hR hS)
theorem z_ladd (hX : zC G X cc nL own rt dd) {x y : Int64} (d : decode cc pc = .ok (.ladd, 1))  (n : Nat) (hn : pc + 1 = n) (kk : Z G X Q n lv (.long (x + y) :: st) M) : Z G X Q pc lv (.long y :: .long x :: st) M := by
  obtain ⟨p, l, e, R, s, m, args, below, meth, c⟩ := X
  subst hn
  intro H locs ls hl hR hS
  exact lv_ladd hX.1 hX.2.1 d  (kk H locs ls hl hR hS)
theorem z_lsub (hX : zC G X cc nL own rt dd) {x y : Int64} (d : decode cc pc = .ok (.lsub, 1))  (n : Nat) (hn : pc + 1 = n) (kk : Z G X Q n lv (.long (x - y) :: st) M) : Z G X Q pc lv (.long y :: .long x :: st) M := by
  obtain ⟨p, l, e, R, s, m, args, below, meth, c⟩ := X
  subst hn
  intro H locs ls hl hR hS
  exact lv_lsub hX.1 hX.2.1 d  (kk H locs ls hl hR hS)
theorem z_lmul (hX : zC G X cc nL own rt dd) {x y : Int64} (d : decode cc pc = .ok (.lmul, 1))  (n : Nat) (hn : pc + 1 = n) (kk : Z G X Q n lv (.long (x * y) :: st) M) : Z G X Q pc lv (.long y :: .long x :: st) M := by
  obtain ⟨p, l, e, R, s, m, args, below, meth, c⟩ := X
  subst hn
  intro H locs ls hl hR hS
  exact lv_lmul hX.1 hX.2.1 d  (kk H locs ls hl hR hS)
theorem z_ldiv (hX : zC G X cc nL own rt dd) {x y : Int64} (d : decode cc pc = .ok (.ldiv, 1)) (h0 : ¬ y = 0) (n : Nat) (hn : pc + 1 = n) (kk : Z G X Q n lv (.long (x / y) :: st) M) : Z G X Q pc lv (.long y :: .long x :: st) M := by
  obtain ⟨p, l, e, R, s, m, args, below, meth, c⟩ := X
  subst hn
  intro H locs ls hl hR hS
  exact lv_ldiv hX.1 hX.2.1 d h0 (kk H locs ls hl hR hS)
theorem z_lrem (hX : zC G X cc nL own rt dd) {x y : Int64} (d : decode cc pc = .ok (.lrem, 1)) (h0 : ¬ y = 0) (n : Nat) (hn : pc + 1 = n) (kk : Z G X Q n lv (.long (x - x / y * y) :: st) M) : Z G X Q pc lv (.long y :: .long x :: st) M := by
  obtain ⟨p, l, e, R, s, m, args, below, meth, c⟩ := X
  subst hn
  intro H locs ls hl hR hS
  exact lv_lrem hX.1 hX.2.1 d h0 (kk H locs ls hl hR hS)
theorem z_lneg (hX : zC G X cc nL own rt dd) {x : Int64} (d : decode cc pc = .ok (.lneg, 1))  (n : Nat) (hn : pc + 1 = n) (kk : Z G X Q n lv (.long (-x) :: st) M) : Z G X Q pc lv (.long x :: st) M := by
  obtain ⟨p, l, e, R, s, m, args, below, meth, c⟩ := X
  subst hn
  intro H locs ls hl hR hS
  exact lv_lneg hX.1 hX.2.1 d  (kk H locs ls hl hR hS)
theorem z_lcmp (hX : zC G X cc nL own rt dd) {x y : Int64} (d : decode cc pc = .ok (.lcmp, 1))  (n : Nat) (hn : pc + 1 = n) (kk : Z G X Q n lv (.int (lg_cmp x y) :: st) M) : Z G X Q pc lv (.long y :: .long x :: st) M := by
  obtain ⟨p, l, e, R, s, m, args, below, meth, c⟩ := X
  subst hn
  intro H locs ls hl hR hS
  exact W.lcmp hX.1 hX.2.1 d  (kk H locs ls hl hR hS)
theorem z_i2l (hX : zC G X cc nL own rt dd) {x : Int32} (d : decode cc pc = .ok (.i2l, 1))  (n : Nat) (hn : pc + 1 = n) (kk : Z G X Q n lv (.long x.toInt64 :: st) M) : Z G X Q pc lv (.int x :: st) M := by
  obtain ⟨p, l, e, R, s, m, args, below, meth, c⟩ := X
  subst hn
  intro H locs ls hl hR hS
  exact lv_i2l hX.1 hX.2.1 d rfl (kk H locs ls hl hR hS)
theorem z_l2i (hX : zC G X cc nL own rt dd) {x : Int64} (d : decode cc pc = .ok (.l2i, 1))  (n : Nat) (hn : pc + 1 = n) (kk : Z G X Q n lv (.int x.toInt32 :: st) M) : Z G X Q pc lv (.long x :: st) M := by
  obtain ⟨p, l, e, R, s, m, args, below, meth, c⟩ := X
  subst hn
  intro H locs ls hl hR hS
  exact lv_l2i hX.1 hX.2.1 d rfl (kk H locs ls hl hR hS)
theorem z_i2b (hX : zC G X cc nL own rt dd) {x : Int32} (d : decode cc pc = .ok (.i2b, 1))  (n : Nat) (hn : pc + 1 = n) (kk : Z G X Q n lv (.int x.toInt8.toInt32 :: st) M) : Z G X Q pc lv (.int x :: st) M := by
  obtain ⟨p, l, e, R, s, m, args, below, meth, c⟩ := X
  subst hn
  intro H locs ls hl hR hS
  exact lv_i2b hX.1 hX.2.1 d rfl (kk H locs ls hl hR hS)
theorem z_i2c (hX : zC G X cc nL own rt dd) {x : Int32} (d : decode cc pc = .ok (.i2c, 1))  (n : Nat) (hn : pc + 1 = n) (kk : Z G X Q n lv (.int (x.toUInt32 % 65536).toInt32 :: st) M) : Z G X Q pc lv (.int x :: st) M := by
  obtain ⟨p, l, e, R, s, m, args, below, meth, c⟩ := X
  subst hn
  intro H locs ls hl hR hS
  exact lv_i2c hX.1 hX.2.1 d rfl (kk H locs ls hl hR hS)
theorem z_dup (hX : zC G X cc nL own rt dd) {v : Value} (d : decode cc pc = .ok (.dup, 1)) (hc : v.category = 1) (n : Nat) (hn : pc + 1 = n) (kk : Z G X Q n lv (v :: v :: st) M) : Z G X Q pc lv (v :: st) M := by
  obtain ⟨p, l, e, R, s, m, args, below, meth, c⟩ := X
  subst hn
  intro H locs ls hl hR hS
  exact lv_dup hX.1 hX.2.1 d (by rw [zrv_cat]; exact hc) (kk H locs ls hl hR hS)
theorem z_pop (hX : zC G X cc nL own rt dd) {v : Value} (d : decode cc pc = .ok (.pop, 1)) (hc : v.category = 1) (n : Nat) (hn : pc + 1 = n) (kk : Z G X Q n lv (st) M) : Z G X Q pc lv (v :: st) M := by
  obtain ⟨p, l, e, R, s, m, args, below, meth, c⟩ := X
  subst hn
  intro H locs ls hl hR hS
  exact lv_pop hX.1 hX.2.1 d (by rw [zrv_cat]; exact hc) (kk H locs ls hl hR hS)
theorem z_dup2 (hX : zC G X cc nL own rt dd) {v w : Value} (d : decode cc pc = .ok (.dup2, 1)) (hc : v.category = 1) (hc2 : w.category = 1) (n : Nat) (hn : pc + 1 = n) (kk : Z G X Q n lv (v :: w :: v :: w :: st) M) : Z G X Q pc lv (v :: w :: st) M := by
  obtain ⟨p, l, e, R, s, m, args, below, meth, c⟩ := X
  subst hn
  intro H locs ls hl hR hS
  exact lv_dup2_11 hX.1 hX.2.1 d (by rw [zrv_cat]; exact hc) (by rw [zrv_cat]; exact hc2) (kk H locs ls hl hR hS)
theorem z_if_eq (hX : zC G X cc nL own rt dd) {x : Int32} {off : Int} (d : decode cc pc = .ok (.ifCond .eq off, 3)) (tgt n : Nat) (ht : (pc : Int) + off = (tgt : Int)) (hn : pc + 3 = n) (kt : x = 0 → Z G X Q tgt lv st M) (kf : ¬ x = 0 → Z G X Q n lv st M) : Z G X Q pc lv (.int x :: st) M := by
  obtain ⟨p, l, e, R, s, m, args, below, meth, c⟩ := X
  subst hn
  intro H locs ls hl hR hS
  exact lv_if_eq hX.1 hX.2.1 d ht (fun h => kt h H locs ls hl hR hS) (fun h => kf h H locs ls hl hR hS)
theorem z_icmp_eq (hX : zC G X cc nL own rt dd) {x y : Int32} {off : Int} (d : decode cc pc = .ok (.if_icmp .eq off, 3)) (tgt n : Nat) (ht : (pc : Int) + off = (tgt : Int)) (hn : pc + 3 = n) (kt : x = y → Z G X Q tgt lv st M) (kf : ¬ x = y → Z G X Q n lv st M) : Z G X Q pc lv (.int y :: .int x :: st) M := by
  obtain ⟨p, l, e, R, s, m, args, below, meth, c⟩ := X
  subst hn
  intro H locs ls hl hR hS
  exact lv_icmp_eq hX.1 hX.2.1 d ht (fun h => kt h H locs ls hl hR hS) (fun h => kf h H locs ls hl hR hS)
theorem z_if_ne (hX : zC G X cc nL own rt dd) {x : Int32} {off : Int} (d : decode cc pc = .ok (.ifCond .ne off, 3)) (tgt n : Nat) (ht : (pc : Int) + off = (tgt : Int)) (hn : pc + 3 = n) (kt : ¬ x = 0 → Z G X Q tgt lv st M) (kf : x = 0 → Z G X Q n lv st M) : Z G X Q pc lv (.int x :: st) M := by
  obtain ⟨p, l, e, R, s, m, args, below, meth, c⟩ := X
  subst hn
  intro H locs ls hl hR hS
  exact lv_if_ne hX.1 hX.2.1 d ht (fun h => kt h H locs ls hl hR hS) (fun h => kf h H locs ls hl hR hS)
theorem z_icmp_ne (hX : zC G X cc nL own rt dd) {x y : Int32} {off : Int} (d : decode cc pc = .ok (.if_icmp .ne off, 3)) (tgt n : Nat) (ht : (pc : Int) + off = (tgt : Int)) (hn : pc + 3 = n) (kt : ¬ x = y → Z G X Q tgt lv st M) (kf : x = y → Z G X Q n lv st M) : Z G X Q pc lv (.int y :: .int x :: st) M := by
  obtain ⟨p, l, e, R, s, m, args, below, meth, c⟩ := X
  subst hn
  intro H locs ls hl hR hS
  exact lv_icmp_ne hX.1 hX.2.1 d ht (fun h => kt h H locs ls hl hR hS) (fun h => kf h H locs ls hl hR hS)
theorem z_if_lt (hX : zC G X cc nL own rt dd) {x : Int32} {off : Int} (d : decode cc pc = .ok (.ifCond .lt off, 3)) (tgt n : Nat) (ht : (pc : Int) + off = (tgt : Int)) (hn : pc + 3 = n) (kt : x < 0 → Z G X Q tgt lv st M) (kf : ¬ x < 0 → Z G X Q n lv st M) : Z G X Q pc lv (.int x :: st) M := by
  obtain ⟨p, l, e, R, s, m, args, below, meth, c⟩ := X
  subst hn
  intro H locs ls hl hR hS
  exact lv_if_lt hX.1 hX.2.1 d ht (fun h => kt h H locs ls hl hR hS) (fun h => kf h H locs ls hl hR hS)
theorem z_icmp_lt (hX : zC G X cc nL own rt dd) {x y : Int32} {off : Int} (d : decode cc pc = .ok (.if_icmp .lt off, 3)) (tgt n : Nat) (ht : (pc : Int) + off = (tgt : Int)) (hn : pc + 3 = n) (kt : x < y → Z G X Q tgt lv st M) (kf : ¬ x < y → Z G X Q n lv st M) : Z G X Q pc lv (.int y :: .int x :: st) M := by
  obtain ⟨p, l, e, R, s, m, args, below, meth, c⟩ := X
  subst hn
  intro H locs ls hl hR hS
  exact lv_icmp_lt hX.1 hX.2.1 d ht (fun h => kt h H locs ls hl hR hS) (fun h => kf h H locs ls hl hR hS)
theorem z_if_ge (hX : zC G X cc nL own rt dd) {x : Int32} {off : Int} (d : decode cc pc = .ok (.ifCond .ge off, 3)) (tgt n : Nat) (ht : (pc : Int) + off = (tgt : Int)) (hn : pc + 3 = n) (kt : 0 ≤ x → Z G X Q tgt lv st M) (kf : ¬ 0 ≤ x → Z G X Q n lv st M) : Z G X Q pc lv (.int x :: st) M := by
  obtain ⟨p, l, e, R, s, m, args, below, meth, c⟩ := X
  subst hn
  intro H locs ls hl hR hS
  exact lv_if_ge hX.1 hX.2.1 d ht (fun h => kt h H locs ls hl hR hS) (fun h => kf h H locs ls hl hR hS)
theorem z_icmp_ge (hX : zC G X cc nL own rt dd) {x y : Int32} {off : Int} (d : decode cc pc = .ok (.if_icmp .ge off, 3)) (tgt n : Nat) (ht : (pc : Int) + off = (tgt : Int)) (hn : pc + 3 = n) (kt : y ≤ x → Z G X Q tgt lv st M) (kf : ¬ y ≤ x → Z G X Q n lv st M) : Z G X Q pc lv (.int y :: .int x :: st) M := by
  obtain ⟨p, l, e, R, s, m, args, below, meth, c⟩ := X
  subst hn
  intro H locs ls hl hR hS
  exact lv_icmp_ge hX.1 hX.2.1 d ht (fun h => kt h H locs ls hl hR hS) (fun h => kf h H locs ls hl hR hS)
theorem z_if_gt (hX : zC G X cc nL own rt dd) {x : Int32} {off : Int} (d : decode cc pc = .ok (.ifCond .gt off, 3)) (tgt n : Nat) (ht : (pc : Int) + off = (tgt : Int)) (hn : pc + 3 = n) (kt : 0 < x → Z G X Q tgt lv st M) (kf : ¬ 0 < x → Z G X Q n lv st M) : Z G X Q pc lv (.int x :: st) M := by
  obtain ⟨p, l, e, R, s, m, args, below, meth, c⟩ := X
  subst hn
  intro H locs ls hl hR hS
  exact lv_if_gt hX.1 hX.2.1 d ht (fun h => kt h H locs ls hl hR hS) (fun h => kf h H locs ls hl hR hS)
theorem z_icmp_gt (hX : zC G X cc nL own rt dd) {x y : Int32} {off : Int} (d : decode cc pc = .ok (.if_icmp .gt off, 3)) (tgt n : Nat) (ht : (pc : Int) + off = (tgt : Int)) (hn : pc + 3 = n) (kt : y < x → Z G X Q tgt lv st M) (kf : ¬ y < x → Z G X Q n lv st M) : Z G X Q pc lv (.int y :: .int x :: st) M := by
  obtain ⟨p, l, e, R, s, m, args, below, meth, c⟩ := X
  subst hn
  intro H locs ls hl hR hS
  exact lv_icmp_gt hX.1 hX.2.1 d ht (fun h => kt h H locs ls hl hR hS) (fun h => kf h H locs ls hl hR hS)
theorem z_if_le (hX : zC G X cc nL own rt dd) {x : Int32} {off : Int} (d : decode cc pc = .ok (.ifCond .le off, 3)) (tgt n : Nat) (ht : (pc : Int) + off = (tgt : Int)) (hn : pc + 3 = n) (kt : x ≤ 0 → Z G X Q tgt lv st M) (kf : ¬ x ≤ 0 → Z G X Q n lv st M) : Z G X Q pc lv (.int x :: st) M := by
  obtain ⟨p, l, e, R, s, m, args, below, meth, c⟩ := X
  subst hn
  intro H locs ls hl hR hS
  exact lv_if_le hX.1 hX.2.1 d ht (fun h => kt h H locs ls hl hR hS) (fun h => kf h H locs ls hl hR hS)
theorem z_icmp_le (hX : zC G X cc nL own rt dd) {x y : Int32} {off : Int} (d : decode cc pc = .ok (.if_icmp .le off, 3)) (tgt n : Nat) (ht : (pc : Int) + off = (tgt : Int)) (hn : pc + 3 = n) (kt : x ≤ y → Z G X Q tgt lv st M) (kf : ¬ x ≤ y → Z G X Q n lv st M) : Z G X Q pc lv (.int y :: .int x :: st) M := by
  obtain ⟨p, l, e, R, s, m, args, below, meth, c⟩ := X
  subst hn
  intro H locs ls hl hR hS
  exact lv_icmp_le hX.1 hX.2.1 d ht (fun h => kt h H locs ls hl hR hS) (fun h => kf h H locs ls hl hR hS)
theorem z_goto (hX : zC G X cc nL own rt dd) {off : Int} (d : decode cc pc = .ok (.goto off, 3)) (tgt : Nat) (ht : (pc : Int) + off = (tgt : Int)) (kk : Z G X Q tgt lv st M) : Z G X Q pc lv st M := by
  obtain ⟨p, l, e, R, s, m, args, below, meth, c⟩ := X
  intro H locs ls hl hR hS
  exact lv_goto hX.1 hX.2.1 d ht (kk H locs ls hl hR hS)
theorem z_tabIn (hX : zC G X cc nL own rt dd) {dflt lo hi : Int} {offs : Array Int} {len : Nat} {x : Int32} {off : Int} (d : decode cc pc = .ok (.tableswitch dflt lo hi offs, len)) (h1 : ¬ x.toInt < lo) (h2 : ¬ hi < x.toInt) (ho : offs[(x.toInt - lo).toNat]? = some off) (tgt : Nat) (ht : (pc : Int) + off = (tgt : Int)) (kk : Z G X Q tgt lv st M) : Z G X Q pc lv (.int x :: st) M := by
  obtain ⟨p, l, e, R, s, m, args, below, meth, c⟩ := X
  intro H locs ls hl hR hS
  exact lv_tableIn hX.1 hX.2.1 d h1 h2 ho ht (kk H locs ls hl hR hS)
theorem z_tabOut (hX : zC G X cc nL own rt dd) {dflt lo hi : Int} {offs : Array Int} {len : Nat} {x : Int32} (d : decode cc pc = .ok (.tableswitch dflt lo hi offs, len)) (h : x.toInt < lo ∨ hi < x.toInt) (tgt : Nat) (ht : (pc : Int) + dflt = (tgt : Int)) (kk : Z G X Q tgt lv st M) : Z G X Q pc lv (.int x :: st) M := by
  obtain ⟨p, l, e, R, s, m, args, below, meth, c⟩ := X
  intro H locs ls hl hR hS
  exact lv_tableOut hX.1 hX.2.1 d h ht (kk H locs ls hl hR hS)
theorem z_look (hX : zC G X cc nL own rt dd) {dflt : Int} {ps : Array (Int × Int)} {len : Nat} {x : Int32} {off : Int} (d : decode cc pc = .ok (.lookupswitch dflt ps, len)) (hp : (ps.toList.zip (ps.toList.drop 1)).all (fun (a, next) => a.1 < next.1) = true) (ho : Op.lookupswitch.offset ps.toList dflt x.toInt = off) (tgt : Nat) (ht : (pc : Int) + off = (tgt : Int)) (kk : Z G X Q tgt lv st M) : Z G X Q pc lv (.int x :: st) M := by
  obtain ⟨p, l, e, R, s, m, args, below, meth, c⟩ := X
  intro H locs ls hl hR hS
  exact lv_lookup hX.1 hX.2.1 d hp ho ht (kk H locs ls hl hR hS)
theorem zs_out {i : Nat} (h : ¬ i < zN) : zs i = .inr (2, 0) := by
  have h1 : zsL.length = zN := by decide +kernel
  have h2 : zsL.length ≤ i := by omega
  unfold zs
  rw [List.getD_eq_getElem?_getD, List.getElem?_eq_none h2]
  rfl
theorem zs_lt {i : Nat} {o : Nat × Nat × (Nat → Option (Option Nat))} (h : zs i = .inl o) : i < zN := by
  by_cases hi : i < zN
  · exact hi
  · rw [zs_out hi] at h; cases h
theorem zs_ltA {i t n : Nat} (h : zs i = .inr (t, n)) (h0 : 0 < n) : i < zN := by
  by_cases hi : i < zN
  · exact hi
  · rw [zs_out hi] at h; cases h; omega
theorem vp_in_pos {j : Int32} {n : Nat} (h : vp_in j n) : 0 < n := by
  rcases Nat.eq_zero_or_pos n with h0 | h0
  · subst h0; exact absurd (Or.inr (Nat.zero_le _)) h
  · exact h0
theorem zcell_o {i ci nf : Nat} {ft : Nat → Option (Option Nat)} (h : zs i = .inl (ci, nf, ft)) : zcell G M i = .inr (ci, zobj G M i nf ft) := by
  unfold zcell; rw [h]
theorem zcell_i {i t n : Nat} (h : zs i = .inr (t, n)) (ht : t ≠ 3) : zcell G M i = .inl (G.2.1 t, n, .inl (M.1 i)) := by
  unfold zcell; rw [h]; exact if_neg ht
theorem zcell_l {i n : Nat} (h : zs i = .inr (3, n)) : zcell G M i = .inl (G.2.1 3, n, .inr (.inl (M.2.1 i))) := by
  unfold zcell; rw [h]; exact if_pos rfl
theorem zobj_at {i k nf : Nat} {ft : Nat → Option (Option Nat)} (hk : k < nf) : (zobj G M i nf ft)[k]? = some (zfv G.2.2 M i k (ft k)) := by
  unfold zobj
  rw [List.getElem?_map, List.getElem?_range hk]
  rfl
theorem zobj_len {i nf : Nat} {ft : Nat → Option (Option Nat)} : (zobj G M i nf ft).length = nf := by
  unfold zobj; simp
theorem zobj_setI {i k nf : Nat} {ft : Nat → Option (Option Nat)} {x : Int32} (ht : ft k = none) : (zobj G M i nf ft).set k (.int x) = zobj G (zI M i k x) i nf ft := by
  apply List.ext_getElem?
  intro j
  rw [List.getElem?_set]
  by_cases hj : k = j
  · subst hj
    rw [if_pos rfl, zobj_len]
    by_cases hn : k < nf
    · rw [if_pos hn, zobj_at hn, ht]
      simp [zfv, zI]
    · rw [if_neg hn, List.getElem?_eq_none (by rw [zobj_len]; omega)]
  · rw [if_neg hj]
    by_cases hn : j < nf
    · rw [zobj_at hn, zobj_at hn]
      have e : (zI M i k x).1 i j = M.1 i j := by simp only [zI]; exact if_neg (fun z => hj z.2.symm)
      unfold zfv
      rw [e]
      rfl
    · rw [List.getElem?_eq_none (by rw [zobj_len]; omega), List.getElem?_eq_none (by rw [zobj_len]; omega)]
theorem zobj_setF {i k nf y : Nat} {ft : Nat → Option (Option Nat)} (ht : ft k = some none) : (zobj G M i nf ft).set k (.ref (G.2.2 y)) = zobj G (zF M i k y) i nf ft := by
  apply List.ext_getElem?
  intro j
  rw [List.getElem?_set]
  by_cases hj : k = j
  · subst hj
    rw [if_pos rfl, zobj_len]
    by_cases hn : k < nf
    · rw [if_pos hn, zobj_at hn, ht]
      simp [zfv, zF, va_rf]
    · rw [if_neg hn, List.getElem?_eq_none (by rw [zobj_len]; omega)]
  · rw [if_neg hj]
    by_cases hn : j < nf
    · rw [zobj_at hn, zobj_at hn]
      have e : (zF M i k y).2.2 i j = M.2.2 i j := by simp only [zF]; exact if_neg (fun z => hj z.2.symm)
      unfold zfv
      rw [e]
      rfl
    · rw [List.getElem?_eq_none (by rw [zobj_len]; omega), List.getElem?_eq_none (by rw [zobj_len]; omega)]
/-- a field of class number ci, its slot k, as the pool entry idx of the class own names it -/
def zFld (own : String) (idx ci k : Nat) : Prop := ∃ (C : String) (T : u_T) (N : Nat), vwCl[ci]? = some (C, T, N) ∧ k < N ∧ (∀ w ∈ u_ws C T N, w ∈ zWS) ∧ Cond.fieldLink own idx (T k).1 (T k).2.1 (T k).2.2.1 ∈ zWS
def zFldP (own : String) (idx ci k : Nat) (ty : FieldType) : Prop := ∃ (C : String) (T : u_T) (N : Nat) (ty0 : Nat → FieldType), (vwCl[ci]? = some (C, T, N) ∧ k < N ∧ (∀ w ∈ u_ws C T N, w ∈ zWS) ∧ Cond.fieldLink own idx (T k).1 (T k).2.1 (T k).2.2.1 ∈ zWS) ∧ (∀ k, k < N → parseFieldDescriptor (T k).2.2.1 = some (ty0 k)) ∧ (∀ a, a < N → ∀ b, b < N → a ≠ b → (T a).2.1 ≠ (T b).2.1) ∧ (T k).2.2.2 = false ∧ parseFieldDescriptor (T k).2.2.1 = some ty
theorem z_get (hX : zC G X cc nL own rt dd) {idx ci k i nf : Nat} {ft : Nat → Option (Option Nat)} {v : Value} (hf : zFld own idx ci k) (d : decode cc pc = .ok (.getfield idx, 3)) (hs : zs i = .inl (ci, nf, ft)) (hk : k < nf) (hv : zfv G.2.2 M i k (ft k) = zrv G.2.2 v) (n : Nat) (hn : pc + 3 = n) (kk : Z G X Q n lv (v :: st) M) : Z G X Q pc lv (.ref i :: st) M := by
  obtain ⟨p, l, e, R, s, m, args, below, meth, c⟩ := X
  subst hn
  intro H locs ls hl hR hS
  obtain ⟨C, T, N, h1, h2, h3, h4⟩ := hf
  exact va_get hX.1 hX.2.1 hX.2.2.2.2.1 h3 hX.2.2.2.1 hX.2.2.2.2.2.1 hR i (by rw [zW_at G M (zs_lt hs), zcell_o hs]) h1 k h2 (hX.2.2.2.2.1 _ h4) (fun _ h => h) (by rw [zobj_at hk, hv]) d (kk H locs ls hl hR hS)
theorem z_getI (hX : zC G X cc nL own rt dd) {idx ci k i nf : Nat} {ft : Nat → Option (Option Nat)} (hf : zFld own idx ci k) (d : decode cc pc = .ok (.getfield idx, 3)) (hs : zs i = .inl (ci, nf, ft)) (hk : k < nf) (ht : ft k = none) (n : Nat) (hn : pc + 3 = n) (kk : Z G X Q n lv (.int (M.1 i k) :: st) M) : Z G X Q pc lv (.ref i :: st) M :=
  z_get hX hf d hs hk (by rw [ht]; rfl) n hn kk
theorem z_getF (hX : zC G X cc nL own rt dd) {idx ci k i nf j : Nat} {ft : Nat → Option (Option Nat)} (hf : zFld own idx ci k) (d : decode cc pc = .ok (.getfield idx, 3)) (hs : zs i = .inl (ci, nf, ft)) (hk : k < nf) (ht : ft k = some (some j)) (n : Nat) (hn : pc + 3 = n) (kk : Z G X Q n lv (.ref j :: st) M) : Z G X Q pc lv (.ref i :: st) M :=
  z_get hX hf d hs hk (by rw [ht]; rfl) n hn kk
theorem z_getR (hX : zC G X cc nL own rt dd) {idx ci k i nf j : Nat} {ft : Nat → Option (Option Nat)} (hf : zFld own idx ci k) (d : decode cc pc = .ok (.getfield idx, 3)) (hs : zs i = .inl (ci, nf, ft)) (hk : k < nf) (ht : ft k = some none) (hm : M.2.2 i k = some j) (n : Nat) (hn : pc + 3 = n) (kk : Z G X Q n lv (.ref j :: st) M) : Z G X Q pc lv (.ref i :: st) M :=
  z_get hX hf d hs hk (by rw [ht]; unfold zfv; rw [hm]; rfl) n hn kk
theorem z_put (hX : zC G X cc nL own rt dd) {idx ci k i nf : Nat} {ty : FieldType} {ft : Nat → Option (Option Nat)} {v : Value} {M' : zM} (hf : zFldP own idx ci k ty) (d : decode cc pc = .ok (.putfield idx, 3)) (hs : zs i = .inl (ci, nf, ft)) (hk : k < nf) (hn1 : narrow ty (zrv G.2.2 v) = zrv G.2.2 v) (hfit : fits ty (zrv G.2.2 v) = true) (hM : zobj G M' i nf ft = (zobj G M i nf ft).set k (zrv G.2.2 v)) (hM2 : ∀ a, a ≠ i → zcell G M' a = zcell G M a) (n : Nat) (hn : pc + 3 = n) (kk : Z G X Q n lv st M') : Z G X Q pc lv (v :: .ref i :: st) M := by
  obtain ⟨p, l, e, R, s, m, args, below, meth, c⟩ := X
  subst hn
  intro H locs ls hl hR hS
  obtain ⟨C, T, N, ty0, ⟨h1, h2, h3, h4⟩, h5, h6, h7, h8⟩ := hf
  have hset : (zW G M).set i (G.2.2 i, .inr (ci, (zobj G M i nf ft).set k (zrv G.2.2 v))) = zW G M' := zW_set (zs_lt hs) (by rw [zcell_o hs, hM]) hM2
  refine va_put hX.1 hX.2.1 hX.2.2.2.2.1 h3 ty0 h5 h6 hX.2.2.2.1 hX.2.2.2.2.2.1 hR (zW_D hX.2.2.2.2.2.2.1 M) hS i (by rw [zW_at G M (zs_lt hs), zcell_o hs]) h1 k h2 (hX.2.2.2.2.1 _ h4) (fun _ h => h) h7 h8 hn1 hfit (by rw [zobj_len]; exact hk) d (fun H1 locs1 hP1 _ hS1 => ?_)
  rw [hset] at hP1
  exact kk H1 locs1 ls hl hP1 hS1
theorem z_putI (hX : zC G X cc nL own rt dd) {idx ci k i nf : Nat} {ft : Nat → Option (Option Nat)} {x : Int32} (hf : zFldP own idx ci k .int) (d : decode cc pc = .ok (.putfield idx, 3)) (hs : zs i = .inl (ci, nf, ft)) (hk : k < nf) (ht : ft k = none) (n : Nat) (hn : pc + 3 = n) (kk : Z G X Q n lv st (zI M i k x)) : Z G X Q pc lv (.int x :: .ref i :: st) M :=
  z_put hX hf d hs hk rfl rfl (zobj_setI ht).symm (fun _ h => zcell_I h) n hn kk
theorem z_putZ (hX : zC G X cc nL own rt dd) {idx ci k i nf : Nat} {ft : Nat → Option (Option Nat)} {x : Int32} (hf : zFldP own idx ci k .boolean) (d : decode cc pc = .ok (.putfield idx, 3)) (hs : zs i = .inl (ci, nf, ft)) (hk : k < nf) (ht : ft k = none) (hx : x = 0 ∨ x = 1) (n : Nat) (hn : pc + 3 = n) (kk : Z G X Q n lv st (zI M i k x)) : Z G X Q pc lv (.int x :: .ref i :: st) M :=
  z_put hX hf d hs hk (by rcases hx with rfl | rfl <;> rfl) (by rcases hx with rfl | rfl <;> rfl) (zobj_setI ht).symm (fun _ h => zcell_I h) n hn kk
theorem z_putR (hX : zC G X cc nL own rt dd) {idx ci k i nf j : Nat} {ty : FieldType} {ft : Nat → Option (Option Nat)} (hf : zFldP own idx ci k ty) (hty : ∀ a, narrow ty (.ref a) = .ref a ∧ fits ty (.ref a) = true) (d : decode cc pc = .ok (.putfield idx, 3)) (hs : zs i = .inl (ci, nf, ft)) (hk : k < nf) (ht : ft k = some none) (n : Nat) (hn : pc + 3 = n) (kk : Z G X Q n lv st (zF M i k j)) : Z G X Q pc lv (.ref j :: .ref i :: st) M :=
  z_put hX hf d hs hk (hty _).1 (hty _).2 (zobj_setF ht).symm (fun _ h => zcell_F h) n hn kk
theorem z_iald (hX : zC G X cc nL own rt dd) {i k : Nat} {j : Int32} (d : decode cc pc = .ok (.iaload, 1)) (hs : zs i = .inr (0, k)) (hin : vp_in j k) (n : Nat) (hn : pc + 1 = n) (kk : Z G X Q n lv (.int (M.1 i j.toNatClampNeg) :: st) M) : Z G X Q pc lv (.int j :: .ref i :: st) M := by
  obtain ⟨p, l, e, R, s, m, args, below, meth, c⟩ := X
  subst hn
  intro H locs ls hl hR hS
  exact va_iald hX.1 hX.2.1 hX.2.2.2.2.2.1 hR i 0 (by rw [zW_at G M (zs_ltA hs (vp_in_pos hin)), zcell_i hs (by decide)]) rfl hin d (kk H locs ls hl hR hS)
theorem z_zald (hX : zC G X cc nL own rt dd) {i k : Nat} {j : Int32} (d : decode cc pc = .ok (.baload, 1)) (hs : zs i = .inr (1, k)) (hin : vp_in j k) (n : Nat) (hn : pc + 1 = n) (kk : Z G X Q n lv (.int (M.1 i j.toNatClampNeg) :: st) M) : Z G X Q pc lv (.int j :: .ref i :: st) M := by
  obtain ⟨p, l, e, R, s, m, args, below, meth, c⟩ := X
  subst hn
  intro H locs ls hl hR hS
  exact va_zald hX.1 hX.2.1 hX.2.2.2.2.2.1 hR i 1 (by rw [zW_at G M (zs_ltA hs (vp_in_pos hin)), zcell_i hs (by decide)]) rfl hin d (kk H locs ls hl hR hS)
theorem z_bald (hX : zC G X cc nL own rt dd) {i k : Nat} {j : Int32} (d : decode cc pc = .ok (.baload, 1)) (hs : zs i = .inr (2, k)) (hin : vp_in j k) (n : Nat) (hn : pc + 1 = n) (kk : Z G X Q n lv (.int (M.1 i j.toNatClampNeg) :: st) M) : Z G X Q pc lv (.int j :: .ref i :: st) M := by
  obtain ⟨p, l, e, R, s, m, args, below, meth, c⟩ := X
  subst hn
  intro H locs ls hl hR hS
  exact va_bald hX.1 hX.2.1 hX.2.2.2.2.2.1 hR i 2 (by rw [zW_at G M (zs_ltA hs (vp_in_pos hin)), zcell_i hs (by decide)]) rfl hin d (kk H locs ls hl hR hS)
theorem z_lald (hX : zC G X cc nL own rt dd) {i k : Nat} {j : Int32} (d : decode cc pc = .ok (.laload, 1)) (hs : zs i = .inr (3, k)) (hin : vp_in j k) (n : Nat) (hn : pc + 1 = n) (kk : Z G X Q n lv (.long (M.2.1 i j.toNatClampNeg) :: st) M) : Z G X Q pc lv (.int j :: .ref i :: st) M := by
  obtain ⟨p, l, e, R, s, m, args, below, meth, c⟩ := X
  subst hn
  intro H locs ls hl hR hS
  exact va_lald hX.1 hX.2.1 hX.2.2.2.2.2.1 hR i 3 (by rw [zW_at G M (zs_ltA hs (vp_in_pos hin)), zcell_l hs]) rfl hin d (kk H locs ls hl hR hS)
theorem zI_row {i j : Nat} {x : Int32} : (zI M i j x).1 i = upd (M.1 i) j x := by
  funext b
  by_cases h : b = j <;> simp [zI, upd, h]
theorem zJ_row {i j : Nat} {x : Int64} : (zJ M i j x).2.1 i = vp_updL (M.2.1 i) j x := by
  funext b
  by_cases h : b = j <;> simp [zJ, vp_updL, h]
theorem z_iast (hX : zC G X cc nL own rt dd) {i k : Nat} {j x : Int32} (d : decode cc pc = .ok (.iastore, 1)) (hs : zs i = .inr (0, k)) (hin : vp_in j k) (n : Nat) (hn : pc + 1 = n) (kk : Z G X Q n lv st (zI M i j.toNatClampNeg x)) : Z G X Q pc lv (.int x :: .int j :: .ref i :: st) M := by
  obtain ⟨p, l, e, R, s, m, args, below, meth, c⟩ := X
  subst hn
  intro H locs ls hl hR hS
  have hi := zs_ltA hs (vp_in_pos hin)
  have hset := zW_set (G := G) (M := M) (M' := zI M i j.toNatClampNeg x) hi (by rw [zcell_i hs (by decide), zI_row]) (fun _ h => zcell_I h)
  refine va_iast hX.1 hX.2.1 hX.2.2.2.2.2.1 hR (zW_D hX.2.2.2.2.2.2.1 M) hS i 0 (by rw [zW_at G M hi, zcell_i hs (by decide)]) rfl hin d (fun H1 locs1 hP1 _ hS1 => ?_)
  rw [hset] at hP1
  exact kk H1 locs1 ls hl hP1 hS1
theorem z_zast (hX : zC G X cc nL own rt dd) {i k : Nat} {j x : Int32} (d : decode cc pc = .ok (.bastore, 1)) (hs : zs i = .inr (1, k)) (hin : vp_in j k) (n : Nat) (hn : pc + 1 = n) (kk : Z G X Q n lv st (zI M i j.toNatClampNeg (vp_nar .boolean x))) : Z G X Q pc lv (.int x :: .int j :: .ref i :: st) M := by
  obtain ⟨p, l, e, R, s, m, args, below, meth, c⟩ := X
  subst hn
  intro H locs ls hl hR hS
  have hi := zs_ltA hs (vp_in_pos hin)
  have hset := zW_set (G := G) (M := M) (M' := zI M i j.toNatClampNeg (vp_nar .boolean x)) hi (by rw [zcell_i hs (by decide), zI_row]) (fun _ h => zcell_I h)
  refine va_zast hX.1 hX.2.1 hX.2.2.2.2.2.1 hR (zW_D hX.2.2.2.2.2.2.1 M) hS i 1 (by rw [zW_at G M hi, zcell_i hs (by decide)]) rfl hin d (fun H1 locs1 hP1 _ hS1 => ?_)
  rw [hset] at hP1
  exact kk H1 locs1 ls hl hP1 hS1
theorem z_bast (hX : zC G X cc nL own rt dd) {i k : Nat} {j x : Int32} (d : decode cc pc = .ok (.bastore, 1)) (hs : zs i = .inr (2, k)) (hin : vp_in j k) (n : Nat) (hn : pc + 1 = n) (kk : Z G X Q n lv st (zI M i j.toNatClampNeg (vp_nar .byte x))) : Z G X Q pc lv (.int x :: .int j :: .ref i :: st) M := by
  obtain ⟨p, l, e, R, s, m, args, below, meth, c⟩ := X
  subst hn
  intro H locs ls hl hR hS
  have hi := zs_ltA hs (vp_in_pos hin)
  have hset := zW_set (G := G) (M := M) (M' := zI M i j.toNatClampNeg (vp_nar .byte x)) hi (by rw [zcell_i hs (by decide), zI_row]) (fun _ h => zcell_I h)
  refine va_bast hX.1 hX.2.1 hX.2.2.2.2.2.1 hR (zW_D hX.2.2.2.2.2.2.1 M) hS i 2 (by rw [zW_at G M hi, zcell_i hs (by decide)]) rfl hin d (fun H1 locs1 hP1 _ hS1 => ?_)
  rw [hset] at hP1
  exact kk H1 locs1 ls hl hP1 hS1
theorem z_last (hX : zC G X cc nL own rt dd) {i k : Nat} {j : Int32} {x : Int64} (d : decode cc pc = .ok (.lastore, 1)) (hs : zs i = .inr (3, k)) (hin : vp_in j k) (n : Nat) (hn : pc + 1 = n) (kk : Z G X Q n lv st (zJ M i j.toNatClampNeg x)) : Z G X Q pc lv (.long x :: .int j :: .ref i :: st) M := by
  obtain ⟨p, l, e, R, s, m, args, below, meth, c⟩ := X
  subst hn
  intro H locs ls hl hR hS
  have hi := zs_ltA hs (vp_in_pos hin)
  have hset := zW_set (G := G) (M := M) (M' := zJ M i j.toNatClampNeg x) hi (by rw [zcell_l hs, zJ_row]) (fun _ h => zcell_J h)
  refine va_last hX.1 hX.2.1 hX.2.2.2.2.2.1 hR (zW_D hX.2.2.2.2.2.2.1 M) hS i 3 (by rw [zW_at G M hi, zcell_l hs]) rfl hin d (fun H1 locs1 hP1 _ hS1 => ?_)
  rw [hset] at hP1
  exact kk H1 locs1 ls hl hP1 hS1
theorem z_alen (hX : zC G X cc nL own rt dd) {i t k : Nat} {v : Int32} (d : decode cc pc = .ok (.arraylength, 1)) (hs : zs i = .inr (t, k)) (h0 : 0 < k) (ht : t < 3) (hv : Int32.ofNat k = v) (n : Nat) (hn : pc + 1 = n) (kk : Z G X Q n lv (.int v :: st) M) : Z G X Q pc lv (.ref i :: st) M := by
  obtain ⟨p, l, e, R, s, m, args, below, meth, c⟩ := X
  subst hn
  intro H locs ls hl hR hS
  have hi := zs_ltA hs h0
  have ht2 : ∃ ty, (ztys G)[t]? = some (G.2.1 t, ty) := by
    match t, ht with
    | 0, _ => exact ⟨_, rfl⟩
    | 1, _ => exact ⟨_, rfl⟩
    | 2, _ => exact ⟨_, rfl⟩
  obtain ⟨ty, ht2⟩ := ht2
  exact va_alen hX.1 hX.2.1 hX.2.2.2.2.2.1 hR i t (by rw [zW_at G M hi, zcell_i hs (by omega)]) ht2 hv d (kk H locs ls hl hR hS)
theorem z_alenL (hX : zC G X cc nL own rt dd) {i k : Nat} {v : Int32} (d : decode cc pc = .ok (.arraylength, 1)) (hs : zs i = .inr (3, k)) (h0 : 0 < k) (hv : Int32.ofNat k = v) (n : Nat) (hn : pc + 1 = n) (kk : Z G X Q n lv (.int v :: st) M) : Z G X Q pc lv (.ref i :: st) M := by
  obtain ⟨p, l, e, R, s, m, args, below, meth, c⟩ := X
  subst hn
  intro H locs ls hl hR hS
  exact va_alen hX.1 hX.2.1 hX.2.2.2.2.2.1 hR i 3 (by rw [zW_at G M (zs_ltA hs h0), zcell_l hs]) rfl hv d (kk H locs ls hl hR hS)
/-! ends -/
theorem z_ireturn (hX : zC G X cc nL own (some .int) dd) {x : Int32} (d : decode cc pc = .ok (.ireturn, 1)) (hq : Q (some (.int x)) M) : Z G X Q pc lv [.int x] M := by
  obtain ⟨p, l, e, R, s, m, args, below, meth, c⟩ := X
  intro H locs ls hl hR hS
  exact W.iret hX.1 hX.2.1 hX.2.2.2.2.2.2.2.2.1 (fun t ht _ => ⟨some (.int x), M, rfl, hq, by rw [ht]; exact hR, hS.F ht⟩) hS.2.2 d hX.2.2.2.2.2.2.2.1
theorem z_zreturn (hX : zC G X cc nL own (some .boolean) dd) {x : Int32} (d : decode cc pc = .ok (.ireturn, 1)) (hx : x = 0 ∨ x = 1) (hq : Q (some (.int x)) M) : Z G X Q pc lv [.int x] M := by
  obtain ⟨p, l, e, R, s, m, args, below, meth, c⟩ := X
  intro H locs ls hl hR hS
  exact W.zret hX.1 hX.2.1 hX.2.2.2.2.2.2.2.2.1 (by rcases hx with rfl | rfl <;> rfl) (fun t ht _ => ⟨some (.int x), M, rfl, hq, by rw [ht]; exact hR, hS.F ht⟩) hS.2.2 d hX.2.2.2.2.2.2.2.1
theorem z_lreturn (hX : zC G X cc nL own (some .long) dd) {x : Int64} (d : decode cc pc = .ok (.lreturn, 1)) (hq : Q (some (.long x)) M) : Z G X Q pc lv [.long x] M := by
  obtain ⟨p, l, e, R, s, m, args, below, meth, c⟩ := X
  intro H locs ls hl hR hS
  exact W.lret hX.1 hX.2.1 hX.2.2.2.2.2.2.2.2.1 (fun t ht _ => ⟨some (.long x), M, rfl, hq, by rw [ht]; exact hR, hS.F ht⟩) hS.2.2 d hX.2.2.2.2.2.2.2.1
theorem z_return (hX : zC G X cc nL own none dd) (d : decode cc pc = .ok (.return_, 1)) (hq : Q none M) : Z G X Q pc lv [] M := by
  obtain ⟨p, l, e, R, s, m, args, below, meth, c⟩ := X
  intro H locs ls hl hR hS
  exact W.vret hX.1 hX.2.1 hX.2.2.2.2.2.2.2.2.1 (fun t ht _ => ⟨none, M, rfl, hq, by rw [ht]; exact hR, hS.F ht⟩) hS.2.2 d hX.2.2.2.2.2.2.2.1
end ZR
