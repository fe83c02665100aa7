/-! ===== the law's calls: pieces ===== -/
def lvL (i : Nat) (a5 a6 : Option Value) : List (Option Value) := [some (.ref 148), some (.ref 0), some (.ref 98), some (.ref 149), some (.int (nI i)), a5, a6]
def yb (x : Int32) : Int32 := if x = 0 then 0 else 1
theorem yb_or (x : Int32) : yb x = 0 ∨ yb x = 1 := by
  unfold yb
  split
  · exact Or.inl rfl
  · exact Or.inr rfl
theorem lg_cmp_self (x : Int64) : lg_cmp x x = 0 := by
  unfold lg_cmp
  have h : ¬ x > x := fun w => by
    have := Int64.lt_iff_toInt_lt.mp w
    omega
  rw [if_neg h, if_pos rfl]
section YC
variable {G : zG} {Y : zY} {L : Nat} {xs : Nat → Int32} {k n pc : Nat} {lv : List (Option Value)} {st : List Value} {M : zM} {o : Int64}
theorem y_arg (hY : yC G Y L xs) {i j : Nat} {a5 a6 : Option Value} (hL : i + 6 ≤ L ∧ L ≤ 3072) (d0 : decode code pc = .ok (.aload_n 0, 1)) (d1 : decode code (pc + 1) = .ok (.iload 4, 2)) (d3 : decode code (pc + 3) = .ok (.iconst (j : Int), 1)) (d4 : decode code (pc + 4) = .ok (.iadd, 1)) (d5 : decode code (pc + 5) = .ok (.iaload, 1)) (hj : Int32.ofInt (j : Int) = nI j) (hj6 : j < 6) (kk : ZL G Y k n (pc + 6) (lvL i a5 a6) (.int (xs (i + j)) :: st) M o) : ZL G Y k n pc (lvL i a5 a6) st M o := by
  refine y_aload_n hY d0 rfl _ rfl ?_
  refine y_iload hY d1 rfl _ rfl ?_
  refine y_iconst hY d3 hj _ rfl ?_
  refine y_iadd hY d4 _ rfl ?_
  rw [nI_add]
  refine y_sld hY d5 (zok_in (zok_nI (show i + j < L by omega) (by omega))) _ rfl ?_
  rw [nI_cl (by omega)]
  exact kk
theorem y_bool (hY : yC G Y L xs) {v : Int32} (d0 : decode code pc = .ok (.ifCond .eq 7, 3)) (d1 : decode code (pc + 3) = .ok (.iconst 1, 1)) (d2 : decode code (pc + 4) = .ok (.goto 4, 3)) (d3 : decode code (pc + 7) = .ok (.iconst 0, 1)) (kk : ZL G Y k n (pc + 8) lv (.int (yb v) :: st) M o) : ZL G Y k n pc lv (.int v :: st) M o := by
  refine y_if_eq hY d0 (pc + 7) _ (by omega) rfl (fun w => ?_) (fun w => ?_)
  · refine y_iconst hY d3 (v := 0) (by decide) _ rfl ?_
    have e : yb v = 0 := if_pos w
    rw [e] at kk
    exact kk
  · refine y_iconst hY d1 (v := 1) (by decide) _ rfl ?_
    refine y_goto hY d2 (pc + 8) (by omega) ?_
    have e : yb v = 1 := if_neg w
    rw [e] at kk
    exact kk
theorem y_callI (hY : yC G Y L xs) {t : zT} {idx ci nf i d' : Nat} {ft : Nat → Option (Option Nat)} {As st0 : List Value} {r : Int32} {M1 : zM} (hv : zVok t) (hl : Cond.methodLink RL idx t.1 ∈ zWS) (d : decode code pc = .ok (.invokevirtual idx, 3)) (hs : zs i = .inl (ci, nf, ft)) (hc : (vwCl[ci]?).map (fun q => q.1) = some t.1.cls)
    (hC : Ct G d' t (.ref i :: As) M (zQi (r, M1))) (hd : d' ≤ 400) (hA : As.length = t.2.2.2.2) (hst : st0 = As.reverse ++ .ref i :: st) (hW : (st.map fun v => v.category).sum ≤ 8) (hk : k ≤ 601024) (hn : n ≤ 7293034) (kk : ZL G Y k n (pc + 3) lv (.int r :: st) M1 o) : ZL G Y k n pc lv st0 M o :=
  y_callV hY hv hl d hs hc hC hd hA hst hW hk hn _ rfl (fun r' M' h => by
    obtain ⟨v, rfl, e⟩ := h
    have e1 := (Prod.mk.inj e).1
    have e2 := (Prod.mk.inj e).2
    subst e1 e2
    exact kk)
theorem y_callIp (hY : yC G Y L xs) {t : zT} {idx ci nf i d' : Nat} {ft : Nat → Option (Option Nat)} {As st0 : List Value} {r : Int32} (hv : zVok t) (hl : Cond.methodLink RL idx t.1 ∈ zWS) (d : decode code pc = .ok (.invokevirtual idx, 3)) (hs : zs i = .inl (ci, nf, ft)) (hc : (vwCl[ci]?).map (fun q => q.1) = some t.1.cls)
    (hC : Ct G d' t (.ref i :: As) M (zQip M r)) (hd : d' ≤ 400) (hA : As.length = t.2.2.2.2) (hst : st0 = As.reverse ++ .ref i :: st) (hW : (st.map fun v => v.category).sum ≤ 8) (hk : k ≤ 601024) (hn : n ≤ 7293034) (kk : ZL G Y k n (pc + 3) lv (.int r :: st) M o) : ZL G Y k n pc lv st0 M o :=
  y_callV hY hv hl d hs hc hC hd hA hst hW hk hn _ rfl (fun r' M' h => by
    obtain ⟨v, rfl, e1, e2⟩ := h
    subst e1 e2
    exact kk)
theorem y_callL (hY : yC G Y L xs) {t : zT} {idx ci nf i d' : Nat} {ft : Nat → Option (Option Nat)} {As st0 : List Value} {r : Int64} {M1 : zM} (hv : zVok t) (hl : Cond.methodLink RL idx t.1 ∈ zWS) (d : decode code pc = .ok (.invokevirtual idx, 3)) (hs : zs i = .inl (ci, nf, ft)) (hc : (vwCl[ci]?).map (fun q => q.1) = some t.1.cls)
    (hC : Ct G d' t (.ref i :: As) M (zQl (r, M1))) (hd : d' ≤ 400) (hA : As.length = t.2.2.2.2) (hst : st0 = As.reverse ++ .ref i :: st) (hW : (st.map fun v => v.category).sum ≤ 8) (hk : k ≤ 601024) (hn : n ≤ 7293034) (kk : ZL G Y k n (pc + 3) lv (.long r :: st) M1 o) : ZL G Y k n pc lv st0 M o :=
  y_callV hY hv hl d hs hc hC hd hA hst hW hk hn _ rfl (fun r' M' h => by
    obtain ⟨v, rfl, e⟩ := h
    have e1 := (Prod.mk.inj e).1
    have e2 := (Prod.mk.inj e).2
    subst e1 e2
    exact kk)
theorem y_callLp (hY : yC G Y L xs) {t : zT} {idx ci nf i d' : Nat} {ft : Nat → Option (Option Nat)} {As st0 : List Value} {r : Int64} (hv : zVok t) (hl : Cond.methodLink RL idx t.1 ∈ zWS) (d : decode code pc = .ok (.invokevirtual idx, 3)) (hs : zs i = .inl (ci, nf, ft)) (hc : (vwCl[ci]?).map (fun q => q.1) = some t.1.cls)
    (hC : Ct G d' t (.ref i :: As) M (zQlp M r)) (hd : d' ≤ 400) (hA : As.length = t.2.2.2.2) (hst : st0 = As.reverse ++ .ref i :: st) (hW : (st.map fun v => v.category).sum ≤ 8) (hk : k ≤ 601024) (hn : n ≤ 7293034) (kk : ZL G Y k n (pc + 3) lv (.long r :: st) M o) : ZL G Y k n pc lv st0 M o :=
  y_callV hY hv hl d hs hc hC hd hA hst hW hk hn _ rfl (fun r' M' h => by
    obtain ⟨v, rfl, e1, e2⟩ := h
    subst e1 e2
    exact kk)
end YC
