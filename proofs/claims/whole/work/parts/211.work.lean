theorem nI_lit1 : (1 : Int32) = nI 1 := by decide
theorem nI_lit2 : (2 : Int32) = nI 2 := by decide
theorem nI_lit3 : (3 : Int32) = nI 3 := by decide
theorem nI_lit7 : (7 : Int32) = nI 7 := by decide
theorem nI_lit64 : (64 : Int32) = nI 64 := by decide
theorem nI_m1 (n : Nat) : nI (n + 1) + (-1) = nI n := by
  rw [← nI_1 n, Int32.add_assoc]
  have : (1 : Int32) + (-1) = 0 := by decide
  rw [this, Int32.add_zero]
theorem i_toNat (j : Int32) : j.toNatClampNeg = j.toInt.toNat := rfl
theorem i_nonneg {j : Int32} (h : ¬ j < 0) : 0 ≤ j.toInt := by
  have h4 : ¬ j.toInt < (0 : Int32).toInt := fun z => h (Int32.lt_iff_toInt_lt.mpr z)
  simpa using h4
theorem zok_of_lt {j : Int32} {n : Nat} (h0 : ¬ j < 0) (h : ¬ nI n ≤ j) (hn : n < 2 ^ 31) : zok j n = true := by
  have h1 := i_nonneg h0
  have h2 : j.toInt < (n : Int) := by
    rw [Int32.le_iff_toInt_le, nI_toInt hn] at h
    omega
  unfold zok
  simp only [Bool.and_eq_true, Bool.not_eq_true', decide_eq_false_iff_not, decide_eq_true_eq]
  refine ⟨h0, ?_⟩
  rw [i_toNat]
  omega
def eVal (F : Nat → Int64) (k n : Int32) : Int64 := if (k - 19) < 0 then n.toInt64 else if 7 ≤ (k - 19) then n.toInt64 else F (k - 19).toNatClampNeg
theorem l_val {p : Nat} {k n : Int32} {M : zM} : gX1_valueOf p k n M = some (eVal (M.2.1 (p + 19)) k n) := by
  unfold gX1_valueOf eVal
  by_cases h1 : (k - 19) < 0
  · rw [if_pos h1, if_pos h1]
  · rw [if_neg h1, if_neg h1]
    by_cases h2 : 7 ≤ (k - 19)
    · rw [if_pos h2, if_pos h2]
    · rw [if_neg h2, if_neg h2, zg_true (zok_of_lt h1 (by rw [← nI_lit7]; exact h2) (by omega))]
/-- a row of KNOTS over a stack (its top first); none: an ERROR -/
def evS (F : Nat → Int64) : List (Int32 × Int32) → List Int64 → Option (List Int64)
  | [], st => some st
  | q :: c, st =>
    if q.1 = 28 then (match st with
      | y :: r => evS F c ((if y = 0 then 1 else 0) :: r)
      | [] => none)
    else if q.1 < 26 then evS F c (eVal F q.1 q.2 :: st)
    else (match st with
      | y :: x :: r => (match cmb q.1 x y with
        | some v => evS F c (v :: r)
        | none => none)
      | _ => none)
/-- what a law comes to; none: an ERROR -/
def evL (F : Nat → Int64) (c : List (Int32 × Int32)) : Option Int64 := match evS F c [] with
  | some [v] => some v
  | _ => none
def evR (o : Option (List Int64)) : Int64 := match o with
  | some [v] => v
  | _ => eErr
def skR (f : Nat → Int64) (st : List Int64) : Prop := ∀ i, i < st.length → f i = st.getD (st.length - 1 - i) 0
theorem skR_push {f g : Nat → Int64} {st : List Int64} {v : Int64} (h : skR f st) (hv : g st.length = v) (hg : ∀ i, i < st.length → g i = f i) : skR g (v :: st) := by
  intro i hi
  rw [List.length_cons] at hi ⊢
  by_cases e : i = st.length
  · subst e
    rw [hv, show st.length + 1 - 1 - st.length = 0 by omega]
    rfl
  · rw [hg i (by omega), h i (by omega), show st.length + 1 - 1 - i = (st.length - 1 - i) + 1 by omega]
    rfl
theorem skR_tail {f : Nat → Int64} {st : List Int64} {v : Int64} (h : skR f (v :: st)) : skR f st := by
  intro i hi
  rw [h i (by rw [List.length_cons]; omega), List.length_cons, show st.length + 1 - 1 - i = (st.length - 1 - i) + 1 by omega]
  rfl
theorem skR_top {f : Nat → Int64} {st : List Int64} {v : Int64} (h : skR f (v :: st)) : f st.length = v := by
  rw [h st.length (by rw [List.length_cons]; omega), List.length_cons, show st.length + 1 - 1 - st.length = 0 by omega]
  rfl
theorem zJ_row_ne {M : zM} {a i b : Nat} {x : Int64} (h : b ≠ a) : (zJ M a i x).2.1 b = M.2.1 b := by
  funext j; exact zJ_of (fun z => h z.1)
set_option maxHeartbeats 2000000 in
theorem l_loop {p j e : Nat} (hj : j < 3) (he : e ≤ 64) (K Nn : Nat → Int32) (F : Nat → Int64) : ∀ (c : List (Int32 × Int32)) (k N : Nat) (st : List Int64) (M : zM), M.1 (p + 17) = K → M.1 (p + 18) = Nn → M.1 (p + 16) j = nI e → M.2.1 (p + 19) = F → k + c.length = e → c.length < N → st.length + c.length ≤ 64 → (∀ i, i < c.length → c[i]? = some (K (k + i), Nn (k + i))) → skR (M.2.1 (p + 20)) st →
    ∃ M' : zM, zfix N (gX1_work_L31 p (nI j)) (nI st.length, nI k, M) = some (evR (evS F c st), M') ∧ M'.1 = M.1 ∧ M'.2.2 = M.2.2 ∧ ∀ a, a ≠ p + 20 → M'.2.1 a = M.2.1 a := by
  intro c
  induction c with
  | nil =>
    intro k N st M hK hN he2 hF hk hc hs hcode hst
    cases N with
    | zero => simp at hc
    | succ N =>
      refine ⟨M, ?_, rfl, rfl, fun _ _ => rfl⟩
      rw [zfix_succ]
      unfold gX1_work_L31
      dsimp only
      rw [zg_true (zok_nI hj (by omega)), nI_cl (by omega), he2, if_pos (nI_le (by simp at hk; omega) (by omega))]
      unfold gX1_work_J202
      show (if nI st.length = 1 then _ else _) = some (evR (some st), M)
      match st, hst, hs with
      | [], _, _ => rfl
      | [v], hst, _ =>
        rw [if_pos (by show nI 1 = 1; decide)]
        have := skR_top hst
        show some (M.2.1 (p + 20) (0 : Int32).toNatClampNeg, M) = some (v, M)
        rw [show (0 : Int32).toNatClampNeg = 0 from rfl]
        rw [show M.2.1 (p + 20) 0 = v from this]
      | v :: w :: r, _, hs =>
        rw [if_neg (by
          rw [nI_lit1, nI_eq (by simp only [List.length_cons, List.length_nil] at hs ⊢; omega) (by omega)]
          simp only [List.length_cons]; omega)]
        rfl
  | cons q c ih =>
    intro k N st M hK hN he2 hF hk hc hs hcode hst
    rw [List.length_cons] at hk hc hs
    cases N with
    | zero => omega
    | succ N =>
      have hq := hcode 0 (by simp)
      rw [Nat.add_zero] at hq
      have hq1 : q = (K k, Nn k) := by simpa using hq
      have hcode' : ∀ i, i < c.length → c[i]? = some (K (k + 1 + i), Nn (k + 1 + i)) := fun i hi => by
        have := hcode (i + 1) (by rw [List.length_cons]; omega)
        rw [show k + 1 + i = k + (i + 1) by omega]
        simpa using this
      rw [zfix_succ]
      have hrc0 : ∃ rc, rc = zfix N (gX1_work_L31 p (nI j)) := ⟨_, rfl⟩
      obtain ⟨rc, hrc⟩ := hrc0
      rw [← hrc]
      unfold gX1_work_L31
      dsimp only
      rw [zg_true (zok_nI hj (by omega)), nI_cl (by omega), he2, if_neg (nI_ge (by omega) (by omega)), nI_lit64, if_neg (nI_ge (by omega) (by omega)), zg_true (zok_nI (show k < 64 by omega) (by omega)), zlet_eq, nI_cl (show k < 2 ^ 31 by omega), hK]
      have e1 : q.1 = K k := by rw [hq1]
      have e2 : q.2 = Nn k := by rw [hq1]
      unfold evS
      rw [e1, e2]
      by_cases h28 : K k = 28
      · rw [if_pos h28, if_pos h28]
        match st, hst, hs with
        | [], _, _ =>
          rw [if_neg (by decide)]
          exact ⟨M, rfl, rfl, rfl, fun _ _ => rfl⟩
        | y :: r, hst, hs =>
          rw [List.length_cons] at hs ⊢
          have hy := skR_top hst
          rw [if_pos (by rw [nI_lit1]; exact nI_le (by omega) (by omega)), nI_pred, zg_true (zok_nI (show r.length < 64 by omega) (by omega)), nI_cl (show r.length < 2 ^ 31 by omega), hy]
          simp only [lg_cmp_eq, zlet_eq, nI_1]
          have go : ∀ b : Int64, ∃ M' : zM, zfix N (gX1_work_L31 p (nI j)) (nI (r.length + 1), nI (k + 1), zJ M (p + 20) r.length b) = some (evR (evS F c (b :: r)), M') ∧ M'.1 = M.1 ∧ M'.2.2 = M.2.2 ∧ ∀ a, a ≠ p + 20 → M'.2.1 a = M.2.1 a := by
            intro b
            obtain ⟨M', h1, h2, h3, h4⟩ := ih (k + 1) N (b :: r) (zJ M (p + 20) r.length b) hK hN he2 (by rw [zJ_row_ne (by omega)]; exact hF) (by omega) (by omega) (by rw [List.length_cons]; omega) hcode' (skR_push (skR_tail hst) zJ_at (fun i hi => zJ_of (by omega)))
            exact ⟨M', h1, h2, h3, fun a ha => by rw [h4 a ha, zJ_row_ne ha]⟩
          by_cases hy0 : y = 0
          · rw [if_pos hy0, if_pos hy0, zg_true (zok_nI (show r.length < 64 by omega) (by omega))]
            rw [hrc]; exact go 1
          · rw [if_neg hy0, if_neg hy0, zg_true (zok_nI (show r.length < 64 by omega) (by omega))]
            rw [hrc]; exact go 0
      · rw [if_neg h28, if_neg h28]
        by_cases h26 : K k < 26
        · rw [if_pos h26, if_pos h26, if_pos (nI_lt (by omega) (by omega)), zg_true (zok_nI (show k < 64 by omega) (by omega)), zcL_some l_val, zg_true (zok_nI (show st.length < 64 by omega) (by omega)), zlet_eq, nI_cl (show st.length < 2 ^ 31 by omega), nI_1, nI_1, hF, hN]
          rw [hrc]
          obtain ⟨M', h1, h2, h3, h4⟩ := ih (k + 1) N (eVal F (K k) (Nn k) :: st) (zJ M (p + 20) st.length (eVal F (K k) (Nn k))) hK hN he2 (by rw [zJ_row_ne (by omega)]; exact hF) (by omega) (by omega) (by rw [List.length_cons]; omega) hcode' (skR_push hst zJ_at (fun i hi => zJ_of (by omega)))
          exact ⟨M', h1, h2, h3, fun a ha => by rw [h4 a ha, zJ_row_ne ha]⟩
        · rw [if_neg h26, if_neg h26]
          match st, hst, hs with
          | [], _, _ =>
            rw [if_neg (by decide)]
            exact ⟨M, rfl, rfl, rfl, fun _ _ => rfl⟩
          | [y], _, _ =>
            rw [if_neg (by show ¬ (2 : Int32) ≤ nI 1; decide)]
            exact ⟨M, rfl, rfl, rfl, fun _ _ => rfl⟩
          | y :: x :: r, hst, hs =>
            rw [List.length_cons, List.length_cons] at hs ⊢
            have hy := skR_top hst
            have hx := skR_top (skR_tail hst)
            rw [List.length_cons] at hy
            rw [if_pos (by rw [nI_lit2]; exact nI_le (by omega) (by omega)), nI_m1, nI_pred, zg_true (zok_nI (show r.length < 64 by omega) (by omega)), zg_true (zok_nI (show r.length + 1 < 64 by omega) (by omega)), nI_cl (show r.length < 2 ^ 31 by omega), nI_cl (show r.length + 1 < 2 ^ 31 by omega), hx, hy, zcL_some (l_combine h28), zg_true (zok_nI (show r.length < 64 by omega) (by omega)), zlet_eq, zg_true (zok_nI (show r.length < 64 by omega) (by omega)), zJ_at, nI_1]
            simp only [lg_cmp_eq]
            cases hcm : cmb (K k) x y with
            | none =>
              rw [Option.getD_none, if_pos rfl]
              exact ⟨_, rfl, rfl, rfl, fun a ha => zJ_row_ne ha⟩
            | some v =>
              rw [Option.getD_some, if_neg (eB_ne (cmb_B hcm)), hrc]
              obtain ⟨M', h1, h2, h3, h4⟩ := ih (k + 1) N (v :: r) (zJ M (p + 20) r.length v) hK hN he2 (by rw [zJ_row_ne (by omega)]; exact hF) (by omega) (by omega) (by rw [List.length_cons]; omega) hcode' (skR_push (skR_tail (skR_tail hst)) zJ_at (fun i hi => zJ_of (by omega)))
              exact ⟨M', h1, h2, h3, fun a ha => by rw [h4 a ha, zJ_row_ne ha]⟩
/-- the law j as the class has it: none where there is no such law -/
def lawC (M : zM) (p j : Nat) : Option (List (Int32 × Int32)) := if 0 ≤ M.1 (p + 15) j then some ((List.range' (M.1 (p + 15) j).toNatClampNeg ((M.1 (p + 16) j).toNatClampNeg - (M.1 (p + 15) j).toNatClampNeg)).map (fun k => (M.1 (p + 17) k, M.1 (p + 18) k))) else none
/-- a law's bounds are in order -/
def lawOK (M : zM) (p j : Nat) : Prop := M.1 (p + 15) j < 0 ∨ ∃ a e : Nat, M.1 (p + 15) j = nI a ∧ M.1 (p + 16) j = nI e ∧ a ≤ e ∧ e ≤ 64
theorem i_neg {x : Int32} (h : x < 0) : ¬ 0 ≤ x := by
  rw [Int32.lt_iff_toInt_lt] at h
  rw [Int32.le_iff_toInt_le]
  omega
theorem s_work {p j : Nat} {M : zM} (hj : j < 3) (hok : lawOK M p j) :
    ∃ M' : zM, gX1_work p (nI j) M = some (((lawC M p j).bind (evL (M.2.1 (p + 19)))).getD eErr, M') ∧ M'.1 = M.1 ∧ M'.2.2 = M.2.2 ∧ ∀ a, a ≠ p + 20 → M'.2.1 a = M.2.1 a := by
  unfold gX1_work lawC
  rw [if_neg (nI_pos (by omega)), nI_lit3, if_neg (nI_ge hj (by omega)), zg_true (zok_nI hj (by omega)), nI_cl (by omega)]
  rcases hok with h | ⟨a, e, ha, he, hae, he2⟩
  · rw [if_neg (i_neg h), if_neg (i_neg h)]
    exact ⟨M, rfl, rfl, rfl, fun _ _ => rfl⟩
  · rw [ha, he, if_pos (nI_pos' (by omega)), if_pos (nI_pos' (by omega)), zg_true (zok_nI hj (by omega)), zlet_eq, nI_cl (by omega), nI_cl (by omega)]
    obtain ⟨M', h1, h2, h3, h4⟩ := l_loop hj he2 (M.1 (p + 17)) (M.1 (p + 18)) (M.2.1 (p + 19)) ((List.range' a (e - a)).map (fun k => (M.1 (p + 17) k, M.1 (p + 18) k))) a zFu [] M rfl rfl he rfl (by simp; omega) (by simp [zFu]; omega) (by simp; omega) (by
      intro i hi
      simp only [List.length_map, List.length_range'] at hi
      rw [List.getElem?_map, List.getElem?_range' hi]
      simp) (by intro i hi; simp at hi)
    refine ⟨M', ?_, h2, h3, h4⟩
    rw [show (0 : Int32) = nI ([] : List Int64).length from nI_0.symm, h1]
    congr 2
    show evR _ = (evL _ _).getD eErr
    unfold evR evL
    cases evS (M.2.1 (p + 19)) ((List.range' a (e - a)).map (fun k => (M.1 (p + 17) k, M.1 (p + 18) k))) [] with
    | none => rfl
    | some st =>
      match st with
      | [] => rfl
      | [v] => rfl
      | v :: w :: r => rfl
