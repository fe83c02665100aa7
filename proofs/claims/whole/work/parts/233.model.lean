def wyOK (M : zM) (wy by' : Int32) : Prop := (wy &&& 1 = 0 ↔ by' = 0) ∧ (wy &&& 2 = 0 ↔ ¬ M.1 98 51 = 1) ∧ (wy &&& 4 = 0 ↔ ¬ M.1 98 51 = 3) ∧ (wy &&& 8 = 0 ↔ ¬ M.1 98 51 = 4) ∧ (wy &&& 16 = 0 ↔ ¬ M.1 98 51 = 5)
theorem wyOK.fr {f : Nat} {M M' : zM} {wy by' : Int32} (h : wyOK M wy by') (hf : FrM f M M') : wyOK M' wy by' := by
  unfold wyOK at h ⊢
  rw [hf.1 98 51 (MF_98 (by omega) (by omega))]
  exact h
/-- what a TEXT keeps to -/
def pOd (P : AV) : Prop := (∃ r : Nat, r ≤ 100 ∧ P 12 3 = nI r) ∧ ∃ g : Nat, g ≤ 100 ∧ P 12 2 = nI g
def pDp (P : AV) (T : Nat) : Prop := ∀ t, t < T → ∃ d : Nat, 1 ≤ d ∧ d ≤ 6 ∧ P 7 t = nI d
theorem goal_of {n T : Nat} {M : zM} {f m t : Nat} (hm : m < n) (ht : t < 2 ^ 31) (h : vM n T M f 5 m = nI t) : M.1 126 (6 * f + m) = nI t := by
  rw [vM_5 hm] at h
  have := gC_nI (x := M.1 126 (6 * f + m)) ht
  rw [h] at this
  simpa using this
theorem vM_FrS {n T : Nat} {M M' : zM} {f : Nat} (h : FrS M M') : vM n T M' f = vM n T M f := vM_eq h.1
theorem pM_eq {n T L : Nat} {M M' : zM} (h : ∀ a i, ¬ (a = 98 ∧ i = 34) → M'.1 a i = M.1 a i) : pM n T L M' = pM n T L M := pM_fr (f := 0) (M := M) (M' := (M'.1, M.2.1, M.2.2)) ⟨fun a i q => h a i (fun z => q (Or.inl ⟨z.1, Or.inl z.2⟩)), rfl, fun _ _ _ => rfl⟩
theorem r_hurt {M : zM} {n T L f m t : Nat} {by' wy : Int32} (hM : MC M n T L) (hf : f < 23) (hm : m < n) (ht : t < T) (hg : vM n T M f 5 m = nI t) (hw : wyOK M wy by') (hO : pOd (pM n T L M)) :
    ∃ M', gX10_isHurt (nI f) (nI m) by' M = some (b2i (sHurt (pM n T L M) (vM n T M f) (lawM M) wy m t).1, M') ∧ FrM f M M' ∧ vM n T M' f = vset (vM n T M f) 0 14 (sHurt (pM n T L M) (vM n T M f) (lawM M) wy m t).2 ∧ M'.1 98 53 = M.1 98 53 := by
  have hn := hM.1
  have hTT := hM.2.1
  unfold gX10_isHurt sHurt
  by_cases h3 : M.1 98 51 = 3
  · rw [if_pos h3, if_neg (fun z => (hw.2.2.1.mp z) h3)]
    exact ⟨M, rfl, FrM.rf, (vset_same rfl).symm, rfl⟩
  · rw [if_neg h3, if_pos (hw.2.2.1.mpr h3), nI_6, zg_true (zok_nI (show 6 * f + m < 138 by omega) (by omega)), nI_cl (by omega), goal_of hm (by omega) hg]
    obtain ⟨M1, c1, c2, c3, c4, c5⟩ := r_calls (o := some t) (more := 0) hM hf hm (fun q hq => by cases hq; exact ht)
    have c1 : gX10_calls (nI f) (nI m) (nI t) 0 M = some M1 := c1
    have fr1 : FrS M M1 := ⟨fun a i _ => by rw [c2], c3, fun a q1 _ => c4 a q1⟩
    obtain ⟨M2, w1, w2⟩ := r_within (j := 2) (lo := 0) (hi := 100) (plain := M1.1 100 6) hM (by omega) c2 c5 (sFacts_B _ _ _ _ _)
    rw [← nI_lit2] at w1
    rw [zcV_some c1, cl6, zcIM_some w1]
    have fr2 := fr1.tr w2
    have ev : vM n T M2 f = vM n T M f := vM_FrS fr2
    have go : ∀ (x : Nat) (od : Int64), x ≤ 100 → sCome od wy (vM n T M f 0 14) = sCome (nI x).toInt64 wy (vM n T M f 0 14) → ∃ M', zcIM (gX10_falls (nI f) (nI x) by' M2) (fun v7_ M8_ => zg (zbit v7_) (some (v7_, M8_))) = some (b2i (sCome od wy (vM n T M f 0 14)).1, M') ∧ FrM f M M' ∧ vM n T M' f = vset (vM n T M f) 0 14 (sCome od wy (vM n T M f 0 14)).2 ∧ M'.1 98 53 = M.1 98 53 := by
      intro x od hx he
      obtain ⟨M3, g1, g2, g3, g4⟩ := r_falls (M := M2) (n := n) (T := T) (by' := by') (wy := wy) hf hx hw.1
      rw [ev, ← he] at g1 g3
      rw [zcIM_some g1, zg_true (zbit_b2i _)]
      exact ⟨M3, rfl, fr2.M.tr g2, g3, by rw [g4, fr2.1 98 53 (by omega)]⟩
    cases hs : sLaw (lawM M) 2 (sFacts (pM n T L M) (vM n T M f) m (some t) 0) with
    | some v =>
      obtain ⟨x, hx, x1, x2⟩ := come_clamp (wy := wy) (num := vM n T M f 0 14) (sLaw_B (sFacts_B _ _ _ _ _) hs)
      dsimp only
      rw [x1, Option.getD_some]
      exact go x v hx x2
    | none =>
      obtain ⟨r, hr, hr2⟩ := hO.1
      have e : M1.1 100 6 = nI r := by rw [c2, ← hr2, pM_at (pdS (by omega))]; rfl
      dsimp only
      rw [e, Option.getD_none, hr2]
      exact go r _ hr rfl
theorem vset_comm {V : AV} {c k c' k' : Nat} {x y : Int32} (h : ¬ (c = c' ∧ k = k')) : vset (vset V c k x) c' k' y = vset (vset V c' k' y) c k x := by
  funext a b
  unfold vset
  by_cases h1 : a = c' ∧ b = k'
  · rw [if_pos h1, if_neg (by omega), if_pos h1]
  · rw [if_neg h1]
    by_cases h2 : a = c ∧ b = k
    · rw [if_pos h2, if_pos h2]
    · rw [if_neg h2, if_neg h2, if_neg h1]
theorem mf_m {f a k : Nat} (h : 123 ≤ a) (h2 : a ≤ 127) (hk : k < 6) : MF f a (6 * f + k) := Or.inr (Or.inr (Or.inl ⟨h, h2, by omega, by omega⟩))
theorem mf_t {f k : Nat} (hk : k < 8) : MF f 130 (8 * f + k) := Or.inr (Or.inr (Or.inr ⟨by omega, by omega, by omega, by omega⟩))
theorem mf_0 {f a : Nat} (h : 118 ≤ a) (h2 : a ≤ 122) : MF f a f := Or.inr (Or.inl ⟨h, h2, rfl⟩)
theorem r_leave {M : zM} {n T L f m : Nat} {x : Int32} (hM : MC M n T L) (hf : f < 23) (hm : m < n) :
    ∃ M', gX10_leaves (nI f) (nI m) x M = some M' ∧ FrM f M M' ∧ vM n T M' f = sLeave (vM n T M f) m x ∧ M'.1 98 53 = M.1 98 53 := by
  have hn := hM.1
  have hm6 : m < 6 := by omega
  unfold gX10_leaves sLeave
  rw [nI_6, zg_true (zok_nI (show 6 * f + m < 138 by omega) (by omega)), zlet_eq, zg_true (zok_nI (show 6 * f + m < 138 by omega) (by omega)), zlet_eq, zg_true (zok_nI (show 6 * f + m < 138 by omega) (by omega)), zlet_eq, nI_cl (by omega)]
  refine ⟨_, rfl, (FrM.put (mf_m (by omega) (by omega) hm6)).tr ((FrM.put (mf_m (by omega) (by omega) hm6)).tr (FrM.put (mf_m (by omega) (by omega) hm6))), ?_, ?_⟩
  · have h1 := vM_put (M := zI (zI M 125 (6 * f + m) x) 126 (6 * f + m) (-1)) (f := f) (x := 0) (vd (n := n) (T := T) (c := 6) (by omega) (by omega) hm) (by decide)
    have h2 := vM_put (M := zI M 125 (6 * f + m) x) (f := f) (x := -1) (vd (n := n) (T := T) (c := 5) (by omega) (by omega) hm) (by decide)
    have h3 := vM_put (M := M) (f := f) (x := x) (vd (n := n) (T := T) (c := 4) (by omega) (by omega) hm) (by decide)
    exact h1.trans (by rw [show vM n T (zI (zI M 125 (6 * f + m) x) 126 (6 * f + m) (-1)) f = _ from h2, show vM n T (zI M 125 (6 * f + m) x) f = _ from h3]; rfl)
  · rw [zI_of (by omega), zI_of (by omega), zI_of (by omega)]
theorem clamp_eq (v : Int64) : wClamp (-9 : Int32).toInt64 (9 : Int32).toInt64 v = sClamp v := by
  have e1 : (-9 : Int32).toInt64 = -9 := by decide
  have e2 : (9 : Int32).toInt64 = 9 := by decide
  rw [e1, e2]
  rfl
theorem rue_0 {r : Nat} (h : r ≤ 99) : sRue (nI r) 0 = nI r := by
  unfold sRue
  have k99 : (99 : Int32) = nI 99 := by decide
  rw [Int32.add_zero, k99]
  by_cases h1 : r < 99
  · rw [if_pos (nI_lt h1 (by omega))]
    by_cases h2 : r = 0
    · subst h2; decide
    · rw [if_pos (by rw [← nI_0]; exact nI_lt (by omega) (by omega))]
  · have : r = 99 := by omega
    subst this
    decide
def vRu (V : AV) (n : Nat) : Prop := ∀ m, m < n → ∃ r : Nat, r ≤ 99 ∧ V 2 m = nI r
theorem r_save {M : zM} {n T L f m t : Nat} (hM : MC M n T L) (hf : f < 23) (hm : m < n) (ht : t < T) (hr : vRu (vM n T M f) n) :
    ∃ M', (zg (zok (nI (8 * f + t)) 184) (zlet (zI M 130 ((nI (8 * f + t)) : Int32).toNatClampNeg 2) (fun M19_ => zg (zok (nI f) 23) (zg (zok (nI t) 16) (zg (zok (nI f) 23) (zlet (zI M19_ 121 ((nI f) : Int32).toNatClampNeg (if ((M19_.1 121 ((nI f) : Int32).toNatClampNeg) + (M19_.1 106 ((nI t) : Int32).toNatClampNeg)) < 9999 then ((M19_.1 121 ((nI f) : Int32).toNatClampNeg) + (M19_.1 106 ((nI t) : Int32).toNatClampNeg)) else 9999)) (fun M24_ => zcV (gX10_calls (nI f) (nI m) (nI t) 0 M24_) (fun M26_ => zg (zok (nI (6 * f + m)) 138) (zcIM (gX10_within 1 (-9) 9 0 M26_) (fun v29_ M30_ => zg (zok (nI (6 * f + m)) 138) (zlet (zI M30_ 123 ((nI (6 * f + m)) : Int32).toNatClampNeg (if 0 < (if ((M26_.1 123 ((nI (6 * f + m)) : Int32).toNatClampNeg) + v29_) < 99 then ((M26_.1 123 ((nI (6 * f + m)) : Int32).toNatClampNeg) + v29_) else 99) then (if ((M26_.1 123 ((nI (6 * f + m)) : Int32).toNatClampNeg) + v29_) < 99 then ((M26_.1 123 ((nI (6 * f + m)) : Int32).toNatClampNeg) + v29_) else 99) else 0)) (fun M33_ => some M33_)))))))))))) = some M' ∧ FrM f M M' ∧ vM n T M' f = sSave (pM n T L M) (vM n T M f) (lawM M) m t ∧ M'.1 98 53 = M.1 98 53 := by
  have hn := hM.1
  have hTT := hM.2.1
  have hm6 : m < 6 := by omega
  have ht8 : t < 8 := by omega
  have e12 : vM n T M f 0 12 = M.1 121 f := vM_0 (by omega) (by omega)
  have e6 : pM n T L M 6 t = M.1 106 t := pM_at (pdT (by omega) (by omega) ht)
  have e2 : vM n T M f 2 m = M.1 123 (6 * f + m) := vM_m (by omega) (by omega) (by omega) hm
  rw [zg_true (zok_nI (show 8 * f + t < 184 by omega) (by omega)), zlet_eq, zg_true (zok_nI hf (by omega)), zg_true (zok_nI (show t < 16 by omega) (by omega)), zg_true (zok_nI hf (by omega)), zlet_eq, nI_cl (show 8 * f + t < 2 ^ 31 by omega), nI_cl (show f < 2 ^ 31 by omega), nI_cl (show t < 2 ^ 31 by omega), nI_cl (show 6 * f + m < 2 ^ 31 by omega), zI_of (show ¬ (121 = 130 ∧ f = 8 * f + t) by omega), zI_of (show ¬ (106 = 130 ∧ t = 8 * f + t) by omega)]
  have hfr : FrM f M (zI (zI M 130 (8 * f + t) 2) 121 f (sCrowd (M.1 121 f) (M.1 106 t))) := (FrM.put (mf_t ht8)).tr (FrM.put (mf_0 (by omega) (by omega)))
  have hv : vM n T (zI (zI M 130 (8 * f + t) 2) 121 f (sCrowd (M.1 121 f) (M.1 106 t))) f = sSave1 (pM n T L M) (vM n T M f) t := by
    have h1 := vM_put (M := zI M 130 (8 * f + t) 2) (f := f) (x := sCrowd (M.1 121 f) (M.1 106 t)) (v12 (n := n) (T := T)) (by decide)
    have h2 := vM_put (M := M) (f := f) (x := 2) (vdT (n := n) (T := T) (c := 8) (by omega) (by omega) ht) (by decide)
    unfold sSave1
    rw [e12, e6]
    exact h1.trans (by rw [show vM n T (zI M 130 (8 * f + t) 2) f = _ from h2]; rfl)
  have h53 : (zI (zI M 130 (8 * f + t) 2) 121 f (sCrowd (M.1 121 f) (M.1 106 t))).1 98 53 = M.1 98 53 := by rw [zI_of (by omega), zI_of (by omega)]
  have h123 : (zI (zI M 130 (8 * f + t) 2) 121 f (sCrowd (M.1 121 f) (M.1 106 t))).1 123 (6 * f + m) = M.1 123 (6 * f + m) := by rw [zI_of (by omega), zI_of (by omega)]
  show ∃ M', zcV (gX10_calls (nI f) (nI m) (nI t) 0 (zI (zI M 130 (8 * f + t) 2) 121 f (sCrowd (M.1 121 f) (M.1 106 t)))) _ = _ ∧ _
  generalize zI (zI M 130 (8 * f + t) 2) 121 f (sCrowd (M.1 121 f) (M.1 106 t)) = M7 at hfr hv h53 h123 ⊢
  have hM7 := hM.fr hfr
  obtain ⟨M1, c1, c2, c3, c4, c5⟩ := r_calls (o := some t) (more := 0) hM7 hf hm (fun q hq => by cases hq; exact ht)
  have c1 : gX10_calls (nI f) (nI m) (nI t) 0 M7 = some M1 := c1
  rw [pM_fr hfr, hv] at c5
  obtain ⟨M2, w1, w2⟩ := r_within (j := 1) (lo := -9) (hi := 9) (plain := 0) hM7 (by omega) c2 c5 (sFacts_B _ _ _ _ _)
  rw [← nI_lit1, lawM_fr hfr] at w1
  rw [zcV_some c1, zg_true (zok_nI (show 6 * f + m < 138 by omega) (by omega)), zcIM_some w1, zg_true (zok_nI (show 6 * f + m < 138 by omega) (by omega)), zlet_eq, c2, h123]
  have fr1 : FrS M7 M1 := ⟨fun a i _ => by rw [c2], c3, fun a q1 _ => c4 a q1⟩
  have fr2 := fr1.tr w2
  have hv2 : vM n T M2 f = sSave1 (pM n T L M) (vM n T M f) t := (vM_FrS fr2).trans hv
  have hput : ∀ y : Int32, vM n T (zI M2 123 (6 * f + m) y) f = vset (sSave1 (pM n T L M) (vM n T M f) t) 2 m y := by
    intro y
    have := vM_put (M := M2) (f := f) (x := y) (vd (n := n) (T := T) (c := 2) (by omega) (by omega) hm) (by decide)
    rw [hv2] at this
    exact this
  refine ⟨_, rfl, (hfr.tr fr2.M).tr (FrM.put (mf_m (by omega) (by omega) hm6)), ?_, by rw [zI_of (by omega), fr2.1 98 53 (by omega), h53]⟩
  rw [hput]
  unfold sSave
  rw [← e2]
  cases hs : sLaw (lawM M) 1 (sFacts (pM n T L M) (sSave1 (pM n T L M) (vM n T M f) t) m (some t) 0) with
  | some v =>
    dsimp only
    show vset _ 2 m (sRue (vM n T M f 2 m) (wClamp (-9 : Int32).toInt64 (9 : Int32).toInt64 v)) = _
    rw [clamp_eq]
  | none =>
    dsimp only
    obtain ⟨r, hr1, hr2⟩ := hr m hm
    rw [hr2]
    show vset _ 2 m (sRue (nI r) 0) = _
    rw [rue_0 hr1]
    apply vset_same
    unfold sSave1
    rw [vset_ne (by omega), vset_ne (by omega), hr2]
