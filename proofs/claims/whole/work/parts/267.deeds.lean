/-! pay, hold, wet, swap -/
theorem CR.world {M M' : zM} {q : PPt} {V V' : AV} {I : Option AV} {D D' : Nat × (Nat → AV)} {S : SSt} {B : Nat × (Nat → Int32)} {F : Int32 × Int32} (h : CR M q V I D S B F) (he : ∀ a i, dC a → ¬ (55 ≤ a ∧ a ≤ 64) → ¬ (85 ≤ a ∧ a ≤ 88) → M'.1 a i = M.1 a i) (hr : ∀ a, a < 98 → M'.2.2 a = M.2.2 a) (hv : cV M' q 55 V') (hd : cDd M' q V' D') : CR M' q V' I D' S B F := by
  obtain ⟨p, h1, h2, h3, h4, h5, h6, h7, h8⟩ := h
  have g : ∀ a i, (a ≤ 1 ∨ (75 ≤ a ∧ a ≤ 84) ∨ (89 ≤ a ∧ a ≤ 93)) → M'.1 a i = M.1 a i := fun a i z => he a i (by unfold dC; omega) (by omega) (by omega)
  refine ⟨p, ⟨by rw [hr 0 (by omega)]; exact h1.1, by rw [hr 55 (by omega)]; exact h1.2.1, by rw [hr 0 (by omega)]; exact h1.2.2⟩, h2.mono (fun a i z1 z2 => he a i (pl_dC h2.1.1 z1 z2) ?_ ?_), hv, h4.mono (g _ _ (by omega)) (fun a i z1 z2 => g a i (by omega)) (by rw [hr 75 (by omega)]), hd, h6.mono (fun a i z1 z2 => g a i (by omega)), h7.mono (g _ _ (by omega)) (fun i => g _ _ (by omega)), h8.mono (g _ _ (by omega)) (g _ _ (by omega))⟩
  · have := isPl_lt h2.1.1
    omega
  · have := isPl_lt h2.1.1
    omega
theorem CF_lo {f a i : Nat} (h : a < 118) : ¬ CF f a i := by unfold CF; omega
theorem CF_hi {f a i : Nat} (h : 131 < a) : ¬ CF f a i := by unfold CF; omega
theorem mV.keep {M M' : zM} {q : PPt} {f g : Nat} {V : AV} (h : mV M q f V) (hn : q.1 ≤ 6) (hT : q.2.1 ≤ 8) (hf : f ≠ 1) (hg : f ≠ g) (he : ∀ a i, dM a i → ¬ CF g a i → M'.1 a i = M.1 a i) : mV M' q f V := by
  unfold mV at h ⊢
  rw [← h]
  exact vM_keeps (fun c k hd => he _ _ (ma_dM hn hT hd hf) (ma_CF hn hT hd hg)) (he _ _ (by unfold dM; omega) (CF_lo (by omega))) (he _ _ (by unfold dM; omega) (CF_lo (by omega)))
/-- the fire that is changes -/
theorem MR.now {M M' : zM} {q : PPt} {V V' : AV} {I : Option AV} {D : Nat × (Nat → AV)} {S : SSt} {B : Nat × (Nat → Int32)} {F : Int32 × Int32} (h : MR M q V I D S B F) (he : ∀ a i, dM a i → ¬ CF 0 a i → M'.1 a i = M.1 a i) (hv : mV M' q 0 V') : MR M' q V' I D S B F := by
  obtain ⟨h1, h2, h3, h4, h5, h6, h7, h8⟩ := h
  have hn : q.1 ≤ 6 := h2.1.1.2
  have hT : q.2.1 ≤ 8 := h2.1.2.1.2
  have e : ∀ a i, dM a i → (a < 118 ∨ 131 < a) → M'.1 a i = M.1 a i := fun a i z1 z2 => he a i z1 (by rcases z2 with z | z; exact CF_lo z; exact CF_hi z)
  refine ⟨⟨by rw [e _ _ (by unfold dM; omega) (by omega)]; exact h1.1, by rw [e _ _ (by unfold dM; omega) (by omega)]; exact h1.2⟩, h2.mono (fun a i z1 z2 => e a i (by unfold dM; omega) (by omega)), hv, ⟨by rw [e _ _ (by unfold dM; omega) (by omega)]; exact h4.1, fun J hJ => (h4.2 J hJ).keep hn hT (by omega) (by omega) he⟩, ⟨by rw [e _ _ (by unfold dM; omega) (by omega)]; exact h5.1, h5.2.1, fun k hk => (h5.2.2 k hk).keep hn hT (by omega) (by omega) he⟩, h6.mono (e _ _ (by unfold dM; omega) (by omega)) (e _ _ (by unfold dM; omega) (by omega)) (fun a i z1 z2 => e a i (by unfold dM; omega) (by omega)), h7.mono (e _ _ (by unfold dM; omega) (by omega)) (fun i => e _ _ (by unfold dM; omega) (by omega)), ⟨by rw [e _ _ (by unfold dM; omega) (by omega)]; exact h8.1, by rw [e _ _ (by unfold dM; omega) (by omega)]; exact h8.2⟩⟩
/-- not of fires 3 and on -/
def nF3 (a i : Nat) : Prop := ∀ f, 3 ≤ f → ¬ CF f a i
theorem nF3_lo {a i : Nat} (h : a < 118) : nF3 a i := fun _ _ => CF_lo h
theorem nF3_hi {a i : Nat} (h : 131 < a) : nF3 a i := fun _ _ => CF_hi h
theorem nF3_ma {n T c k f : Nat} (hn : n ≤ 6) (hT : T ≤ 8) (hd : vdim n T c k = true) (hf : f < 3) : nF3 (ma f c k).1 (ma f c k).2 := fun _ hg => ma_CF hn hT hd (by omega)
theorem mV.low {M M' : zM} {q : PPt} {f : Nat} {V : AV} (h : mV M q f V) (hn : q.1 ≤ 6) (hT : q.2.1 ≤ 8) (hf : f < 3) (he : ∀ a i, nF3 a i → ¬ (a = 98 ∧ i = 50) → M'.1 a i = M.1 a i) : mV M' q f V := by
  unfold mV at h ⊢
  rw [← h]
  exact vM_keeps (fun c k hd => he _ _ (nF3_ma hn hT hd hf) (by have := ma_ge (f := f) hd; omega)) (he _ _ (nF3_lo (by omega)) (by omega)) (he _ _ (nF3_lo (by omega)) (by omega))
theorem MR.dd {M M' : zM} {q : PPt} {V : AV} {I : Option AV} {D D' : Nat × (Nat → AV)} {S : SSt} {B : Nat × (Nat → Int32)} {F : Int32 × Int32} (h : MR M q V I D S B F) (he : ∀ a i, nF3 a i → ¬ (a = 98 ∧ i = 50) → M'.1 a i = M.1 a i) (hd : mDd M' q D') : MR M' q V I D' S B F := by
  obtain ⟨h1, h2, h3, h4, h5, h6, h7, h8⟩ := h
  have hn : q.1 ≤ 6 := h2.1.1.2
  have hT : q.2.1 ≤ 8 := h2.1.2.1.2
  have e : ∀ a i, ¬ (a = 98 ∧ i = 50) → (a < 118 ∨ 131 < a) → M'.1 a i = M.1 a i := fun a i z1 z2 => he a i (by rcases z2 with z | z; exact nF3_lo z; exact nF3_hi z) z1
  exact ⟨⟨by rw [e _ _ (by omega) (by omega)]; exact h1.1, by rw [e _ _ (by omega) (by omega)]; exact h1.2⟩, h2.mono (fun a i z1 z2 => e a i (by omega) (by omega)), h3.low hn hT (by omega) he, ⟨by rw [e _ _ (by omega) (by omega)]; exact h4.1, fun J hJ => (h4.2 J hJ).low hn hT (by omega) he⟩, hd, h6.mono (e _ _ (by omega) (by omega)) (e _ _ (by omega) (by omega)) (fun a i z1 z2 => e a i (by omega) (by omega)), h7.mono (e _ _ (by omega) (by omega)) (fun i => e _ _ (by omega) (by omega)), ⟨by rw [e _ _ (by omega) (by omega)]; exact h8.1, by rw [e _ _ (by omega) (by omega)]; exact h8.2⟩⟩
def dSh (N : Nat) : Nat := if N < 20 then 0 else 1
def dPush (V : AV) (D : Nat × (Nat → AV)) : Nat × (Nat → AV) := (D.1 + 1 - dSh D.1, fun k => if k + dSh D.1 < D.1 then D.2 (k + dSh D.1) else V)
theorem lit20 : (20 : Int32) = nI 20 := by decide
theorem lit19 : (19 : Int32) = nI 19 := by decide
theorem c_forget {M : zM} : ∃ M1, gX0_forgetFirst M = some M1 ∧ M1.2 = M.2 ∧ (∀ x i, ¬ (85 ≤ x ∧ x ≤ 88) → M1.1 x i = M.1 x i) ∧ M1.1 85 0 = nI 19 ∧ (∀ x i, 86 ≤ x → x ≤ 88 → i < 19 → M1.1 x i = M.1 x (i + 1)) := by
  unfold gX0_forgetFirst
  obtain ⟨s', N', ⟨Mk, rfl, g1, g2, g3⟩, e⟩ := zfix_inv (B := gX0_forgetFirst_L2) (fun k s => ∃ Mk : zM, s = (nI (k + 1), Mk) ∧ Mk.2 = M.2 ∧ (∀ x i, ¬ (86 ≤ x ∧ x ≤ 88) → Mk.1 x i = M.1 x i) ∧ (∀ x i, 86 ≤ x → x ≤ 88 → i < 20 → Mk.1 x i = if i < k then M.1 x (i + 1) else M.1 x i)) 19 (fun k hk s hs => by
      obtain ⟨Mk, rfl, g1, g2, g3⟩ := hs
      have q20 : ∀ e : Option zM, zg (zok (nI (k + 1)) 20) e = e := fun e => zg_true (zok_nI (by omega) (by omega))
      have q20' : ∀ e : Option zM, zg (zok (nI k) 20) e = e := fun e => zg_true (zok_nI (by omega) (by omega))
      refine ⟨(nI (k + 1 + 1), zI (zI (zI Mk 86 k (Mk.1 86 (k + 1))) 87 k (Mk.1 87 (k + 1))) 88 k (Mk.1 88 (k + 1))), ⟨_, rfl, g1, fun x i z => ?_, fun x i z1 z2 z3 => ?_⟩, fun rc => ?_⟩
      · rw [zI_of (by omega), zI_of (by omega), zI_of (by omega)]; exact g2 x i z
      · have o : ∀ x, 86 ≤ x → x ≤ 88 → Mk.1 x (k + 1) = M.1 x (k + 1) := fun x z1 z2 => by rw [g3 x (k + 1) z1 z2 (by omega), if_neg (by omega)]
        by_cases hi : i = k
        · subst hi
          rw [if_pos (by omega)]
          rcases (show x = 86 ∨ x = 87 ∨ x = 88 by omega) with rfl | rfl | rfl
          · rw [zI_of (by omega), zI_of (by omega), zI_at]; exact o _ (by omega) (by omega)
          · rw [zI_of (by omega), zI_at]; exact o _ (by omega) (by omega)
          · rw [zI_at]; exact o _ (by omega) (by omega)
        · rw [zI_of (by omega), zI_of (by omega), zI_of (by omega), g3 x i z1 z2 z3]
          by_cases h1 : i < k
          · rw [if_pos h1, if_pos (by omega)]
          · rw [if_neg h1, if_neg (by omega)]
      · unfold gX0_forgetFirst_L2
        dsimp only
        rw [lit20, if_neg (nI_ge (show k + 1 < 20 by omega) (by omega)), q20, nI_dec, q20', zlet_eq, q20, q20', zlet_eq, q20, q20', zlet_eq, nI_cl (by omega), nI_cl (by omega), nI_1, zI_of (by omega), zI_of (by omega), zI_of (by omega)]) 19 0 zFu (1, M) (by omega) (by unfold zFu; omega) ⟨M, rfl, rfl, fun _ _ _ => rfl, fun _ _ _ _ _ => by rw [if_neg (by omega)]⟩
  rw [e]
  unfold gX0_forgetFirst_L2
  dsimp only
  rw [lit20, if_pos (nI_le (Nat.le_refl _) (by omega)), zlet_eq, lit19]
  refine ⟨_, rfl, g1, fun x i z => ?_, zI_at, fun x i z1 z2 z3 => ?_⟩
  · rw [zI_of (by omega)]; exact g2 x i (by omega)
  · rw [zI_of (by omega), g3 x i z1 z2 (by omega), if_pos z3]
theorem c_note0 {M : zM} {N : Nat} {a b c : Int32} (h : M.1 85 0 = nI N) (hN : N < 20) :
    ∃ M1, gX0_note_J13 a b c M = some M1 ∧ M1.2 = M.2 ∧ (∀ x i, ¬ (85 ≤ x ∧ x ≤ 88) → M1.1 x i = M.1 x i) ∧ M1.1 85 0 = nI (N + 1) ∧ (∀ x i, 86 ≤ x → x ≤ 88 → i < N → M1.1 x i = M.1 x i) ∧ M1.1 86 N = a ∧ M1.1 87 N = b ∧ M1.1 88 N = c := by
  unfold gX0_note_J13
  have q20 : ∀ e : Option zM, zg (zok (nI N) 20) e = e := fun e => zg_true (zok_nI hN (by omega))
  rw [h, if_neg (nI_pos (by omega)), lit20, if_neg (nI_ge hN (by omega)), q20, zlet_eq, nI_cl (by omega), show (zI M 86 N a).1 85 0 = nI N by rw [zI_of (by omega)]; exact h, q20, zlet_eq, nI_cl (by omega), show (zI (zI M 86 N a) 87 N b).1 85 0 = nI N by rw [zI_of (by omega), zI_of (by omega)]; exact h, q20, zlet_eq, nI_cl (by omega), show (zI (zI (zI M 86 N a) 87 N b) 88 N c).1 85 0 = nI N by rw [zI_of (by omega), zI_of (by omega), zI_of (by omega)]; exact h, zlet_eq, nI_1]
  refine ⟨_, rfl, rfl, fun x i z => ?_, zI_at, fun x i z1 z2 z3 => ?_, ?_, ?_, ?_⟩
  · rw [zI_of (by omega), zI_of (by omega), zI_of (by omega), zI_of (by omega)]
  · rw [zI_of (by omega), zI_of (by omega), zI_of (by omega), zI_of (by omega)]
  · rw [zI_of (by omega), zI_of (by omega), zI_of (by omega), zI_at]
  · rw [zI_of (by omega), zI_of (by omega), zI_at]
  · rw [zI_of (by omega), zI_at]
theorem c_noted {M : zM} {N : Nat} {a b c : Int32} (h : M.1 85 0 = nI N) (hN : N ≤ 20) :
    ∃ M1, gX0_note a b c M = some M1 ∧ M1.2 = M.2 ∧ (∀ x i, ¬ (85 ≤ x ∧ x ≤ 88) → M1.1 x i = M.1 x i) ∧ M1.1 85 0 = nI (N + 1 - dSh N) ∧ (∀ x i, 86 ≤ x → x ≤ 88 → i + dSh N < N → M1.1 x i = M.1 x (i + dSh N)) ∧ M1.1 86 (N - dSh N) = a ∧ M1.1 87 (N - dSh N) = b ∧ M1.1 88 (N - dSh N) = c := by
  unfold gX0_note dSh
  by_cases h20 : N < 20
  · rw [h, lit20, if_pos ((nI_lt_iff (by omega) (by omega)).mpr h20), if_pos h20]
    exact c_note0 h h20
  · have e : N = 20 := by omega
    subst e
    obtain ⟨M1, e1, e2, e3, e4, e5⟩ := c_forget (M := M)
    rw [h, if_neg (by decide), zcV_some e1, if_neg (by omega)]
    obtain ⟨M2, f1, f2, f3, f4, f5, f6, f7, f8⟩ := c_note0 (a := a) (b := b) (c := c) e4 (by omega)
    exact ⟨M2, f1, by rw [f2, e2], fun x i z => by rw [f3 x i z, e3 x i z], f4, fun x i z1 z2 z3 => by rw [f5 x i z1 z2 (by omega), e5 x i z1 z2 (by omega)], f6, f7, f8⟩
theorem cDd.push {M M1 : zM} {q : PPt} {V V' : AV} {D : Nat × (Nat → AV)} {a b c : Int32} (h : cDd M q V D) (h0 : M1.1 85 0 = nI (D.1 + 1 - dSh D.1)) (h1 : ∀ x i, 86 ≤ x → x ≤ 88 → i + dSh D.1 < D.1 → M1.1 x i = M.1 x (i + dSh D.1)) (ha : M1.1 86 (D.1 - dSh D.1) = a) (hb : M1.1 87 (D.1 - dSh D.1) = b) (hc : M1.1 88 (D.1 - dSh D.1) = c) (ho : dOk q.1 q.2.1 a b) (hu : sUndo q.1 q.2.1 a b c V' = V) : cDd M1 q V' (dPush V D) := by
  obtain ⟨k1, k2, k3⟩ := h
  have hle : dSh D.1 ≤ D.1 := by unfold dSh; split <;> omega
  have hs2 : dSh D.1 = 0 ∨ D.1 = 20 := by unfold dSh; split <;> omega
  have hs1 : D.1 < 20 ∨ dSh D.1 = 1 := by unfold dSh; split <;> omega
  refine ⟨h0, by show D.1 + 1 - dSh D.1 ≤ 20; omega, fun k hk => ?_⟩
  have hk' : k < D.1 + 1 - dSh D.1 := hk
  by_cases e : k + dSh D.1 < D.1
  · rw [h1 86 k (by omega) (by omega) e, h1 87 k (by omega) (by omega) e, h1 88 k (by omega) (by omega) e]
    have o := k3 (k + dSh D.1) e
    refine ⟨o.1, ?_⟩
    have e2 : (dPush V D).2 k = D.2 (k + dSh D.1) := if_pos e
    rw [e2, ← o.2]
    congr 1
    unfold dNx
    have e3 : k + 1 < (dPush V D).1 := by show k + 1 < D.1 + 1 - dSh D.1; omega
    rw [if_pos e3]
    show (if k + 1 + dSh D.1 < D.1 then D.2 (k + 1 + dSh D.1) else V) = _
    by_cases e4 : k + dSh D.1 + 1 < D.1
    · rw [if_pos e4, if_pos (show k + 1 + dSh D.1 < D.1 by omega), show k + 1 + dSh D.1 = k + dSh D.1 + 1 by omega]
    · rw [if_neg e4, if_neg (show ¬ (k + 1 + dSh D.1 < D.1) by omega)]
  · have ek : k = D.1 - dSh D.1 := by omega
    rw [ek, ha, hb, hc]
    refine ⟨ho, ?_⟩
    have e2 : (dPush V D).2 (D.1 - dSh D.1) = V := if_neg (by omega)
    rw [e2, ← hu]
    congr 1
    unfold dNx
    rw [if_neg (by show ¬ (D.1 - dSh D.1 + 1 < D.1 + 1 - dSh D.1); omega)]
theorem AI.push {q : PPt} {V V' : AV} {I : Option AV} {D : Nat × (Nat → AV)} {S : SSt} {B : Nat × (Nat → Int32)} (h : AI q V I D S B) (hv : wI q V') : AI q V' I (dPush V D) S B := by
  refine ⟨h.1, hv, h.2.2.1, fun k hk => ?_, h.2.2.2.2⟩
  show wI q (if k + dSh D.1 < D.1 then D.2 (k + dSh D.1) else V)
  split
  · rename_i e; exact h.2.2.2.1 _ e
  · exact h.2.1
theorem c_deed {M Mw : zM} {q : PPt} {V V' : AV} {I : Option AV} {D : Nat × (Nat → AV)} {S : SSt} {B : Nat × (Nat → Int32)} {F : Int32 × Int32} {a b c : Int32} (h : CR M q V I D S B F) (hw : ∀ x i, ¬ (55 ≤ x ∧ x ≤ 64) → Mw.1 x i = M.1 x i) (hw2 : Mw.2 = M.2) (hv : cV Mw q 55 V') (ho : dOk q.1 q.2.1 a b) (hu : sUndo q.1 q.2.1 a b c V' = V) :
    ∃ M1, gX0_note a b c Mw = some M1 ∧ CR M1 q V' I (dPush V D) S B F ∧ (∀ x i, 98 ≤ x → M1.1 x i = M.1 x i) ∧ (∀ x i, 55 ≤ x → x ≤ 64 → M1.1 x i = Mw.1 x i) ∧ M1.2 = M.2 := by
  have h' := h
  obtain ⟨p, c1, c2, c3, c4, c5, c6, c7, c8⟩ := h
  obtain ⟨M1, e1, e2, e3, e4, e5, e6, e7, e8⟩ := c_noted (M := Mw) (N := D.1) (a := a) (b := b) (c := c) (by rw [hw _ _ (by omega)]; exact c5.1) c5.2.1
  refine ⟨M1, e1, h'.world (fun x i z1 z2 z3 => by rw [e3 x i z3, hw x i z2]) (fun x _ => by rw [e2, hw2]) (hv.mono (fun x i z1 z2 _ => e3 x i (by omega))) (c5.push e4 (fun x i z1 z2 z3 => by rw [e5 x i z1 z2 z3, hw _ _ (by omega)]) e6 e7 e8 ho hu), fun x i z => by rw [e3 x i (by omega), hw x i (by omega)], fun x i z1 z2 => e3 x i (by omega), by rw [e2, hw2]⟩
/-- the reference keeps what is -/
theorem nF3_copy {M M' : zM} {f : Nat} (hf : 3 ≤ f) (h : ∀ x i, ¬ CF f x i → M'.1 x i = M.1 x i) : ∀ x i, nF3 x i → M'.1 x i = M.1 x i := fun x i z => h x i (z f hf)
theorem r_keep0 {M : zM} {q : PPt} {V : AV} {N : Nat} {A : Nat → AV} (hn : q.1 ≤ 6) (hT : q.2.1 ≤ 8) (h50 : M.1 98 50 = nI N) (hN : N < 20) (hV : mV M q 0 V) (hA : ∀ k, k < N → mV M q (3 + k) (A k)) :
    ∃ M2, gX10_keepNow_J45 M = some M2 ∧ M2.2 = M.2 ∧ (∀ x i, nF3 x i → ¬ (x = 98 ∧ i = 50) → M2.1 x i = M.1 x i) ∧ M2.1 98 50 = nI (N + 1) ∧ mV M2 q (3 + N) V ∧ ∀ k, k < N → mV M2 q (3 + k) (A k) := by
  unfold gX10_keepNow_J45
  obtain ⟨M1, e1, e2, e3, e4, e5, e6⟩ := r_copies (M := M) (a := 3 + N) (b := 0) (by omega) (by omega) (by omega)
  rw [h50, nI_lit3, nI_add, zcV_some (show gX10_copies (nI (3 + N)) 0 M = some M1 from e1), zlet_eq, e3 98 50 (CF_lo (by omega)), h50, nI_1]
  have ev : ∀ f, vM q.1 q.2.1 (zI M1 98 50 (nI (N + 1))) f = vM q.1 q.2.1 M1 f := fun f => vM_98 (by omega) (by omega)
  refine ⟨_, rfl, e2, fun x i z1 z2 => ?_, zI_at, ?_, fun k hk => ?_⟩
  · rw [zI_of z2, e3 x i (z1 _ (by omega))]
  · unfold mV
    rw [ev, vM_copied hn hT e3 e4 e5 e6]
    exact hV
  · unfold mV
    rw [ev, vM_other hn hT e3 (show 3 + k ≠ 3 + N by omega)]
    exact hA k hk
theorem r_shift {M : zM} {q : PPt} {A : Nat → AV} (hn : q.1 ≤ 6) (hT : q.2.1 ≤ 8) (hA : ∀ k, k < 20 → mV M q (3 + k) (A k)) : ∃ M2 : zM, M2.2 = M.2 ∧ (∀ x i, nF3 x i → M2.1 x i = M.1 x i) ∧ (∀ k, k < 19 → mV M2 q (3 + k) (A (k + 1))) ∧ zfix zFu gX10_keepNow_L11 (1, M) = gX10_keepNow_J45 (zI M2 98 50 ((M2.1 98 50) - 1)) := by
  obtain ⟨s', N', ⟨Mk, rfl, g1, g2, g3, g4⟩, e⟩ := zfix_inv (B := gX10_keepNow_L11) (fun k s => ∃ Mk : zM, s = (nI (k + 1), Mk) ∧ Mk.2 = M.2 ∧ (∀ x i, nF3 x i → Mk.1 x i = M.1 x i) ∧ (∀ j, j < k → mV Mk q (3 + j) (A (j + 1))) ∧ (∀ j, k ≤ j → j < 20 → mV Mk q (3 + j) (A j))) 19 (fun k hk s hs => by
      obtain ⟨Mk, rfl, g1, g2, g3, g4⟩ := hs
      obtain ⟨M1, e1, e2, e3, e4, e5, e6⟩ := r_copies (M := Mk) (a := 3 + k) (b := 3 + (k + 1)) (by omega) (by omega) (by omega)
      refine ⟨(nI (k + 1 + 1), M1), ⟨_, rfl, by rw [e2, g1], fun x i z => by rw [e3 x i (z _ (by omega)), g2 x i z], fun j hj => ?_, fun j hj1 hj2 => ?_⟩, fun rc => ?_⟩
      · unfold mV
        by_cases hjk : j = k
        · subst hjk
          rw [vM_copied hn hT e3 e4 e5 e6]
          exact g4 (j + 1) (by omega) (by omega)
        · rw [vM_other hn hT e3 (show 3 + j ≠ 3 + k by omega)]
          exact g3 j (by omega)
      · unfold mV
        rw [vM_other hn hT e3 (show 3 + j ≠ 3 + k by omega)]
        exact g4 j (by omega) hj2
      · unfold gX10_keepNow_L11
        dsimp only
        rw [lit20, if_neg (nI_ge (show k + 1 < 20 by omega) (by omega)), nI_lit3, nI_add, show nI (3 + (k + 1)) - 1 = nI (3 + k) from nI_dec, zcV_some e1, nI_1]) 19 0 zFu (1, M) (by omega) (by unfold zFu; omega) ⟨M, rfl, rfl, fun _ _ _ => rfl, fun _ h => absurd h (by omega), fun j _ hj => hA j hj⟩
  refine ⟨Mk, g1, g2, g3, ?_⟩
  rw [e]
  unfold gX10_keepNow_L11
  dsimp only
  rw [lit20, if_pos (nI_le (Nat.le_refl _) (by omega)), zlet_eq]
theorem r_keepNow {M : zM} {q : PPt} {V : AV} {I : Option AV} {D : Nat × (Nat → AV)} {S : SSt} {B : Nat × (Nat → Int32)} {F : Int32 × Int32} (h : MR M q V I D S B F) :
    ∃ M2, gX10_keepNow M = some M2 ∧ MR M2 q V I (dPush V D) S B F ∧ M2.2 = M.2 ∧ (∀ x i, x < 98 → M2.1 x i = M.1 x i) := by
  have hn : q.1 ≤ 6 := h.2.1.1.1.2
  have hT : q.2.1 ≤ 8 := h.2.1.1.2.1.2
  have h' := h
  obtain ⟨h1, h2, h3, h4, h5, h6, h7, h8⟩ := h
  unfold gX10_keepNow
  by_cases h20 : D.1 < 20
  · obtain ⟨M2, e1, e2, e3, e4, e5, e6⟩ := r_keep0 (A := D.2) hn hT h5.1 h20 h3 h5.2.2
    have es : dSh D.1 = 0 := if_pos h20
    rw [h5.1, if_neg (by rw [lit20]; intro w; have := congrArg Int32.toInt w; rw [nI_toInt (by omega), nI_toInt (by omega)] at this; omega)]
    refine ⟨M2, e1, h'.dd e3 ⟨?_, ?_, fun k hk => ?_⟩, e2, fun x i z => e3 x i (nF3_lo (by omega)) (by omega)⟩
    · show _ = nI (D.1 + 1 - dSh D.1); rw [es]; exact e4
    · show D.1 + 1 - dSh D.1 ≤ 20; omega
    · have hk' : k < D.1 + 1 - dSh D.1 := hk
      show mV M2 q (3 + k) (if k + dSh D.1 < D.1 then D.2 (k + dSh D.1) else V)
      rw [es, Nat.add_zero]
      by_cases e : k < D.1
      · rw [if_pos e]; exact e6 k e
      · rw [if_neg e, show k = D.1 by omega]; exact e5
  · have e20 : D.1 = 20 := by have := h5.2.1; omega
    have es : dSh D.1 = 1 := if_neg h20
    rw [h5.1, e20, if_pos (by decide)]
    obtain ⟨Ms, k1, k2, k3, k4⟩ := r_shift (A := D.2) hn hT (fun k hk => h5.2.2 k (by omega))
    have e50 : (zI Ms 98 50 ((Ms.1 98 50) - 1)).1 98 50 = nI 19 := by rw [zI_at, k2 98 50 (nF3_lo (by omega)), h5.1, e20]; decide
    have ev : ∀ f, vM q.1 q.2.1 (zI Ms 98 50 ((Ms.1 98 50) - 1)) f = vM q.1 q.2.1 Ms f := fun f => vM_98 (by omega) (by omega)
    have hV' : mV (zI Ms 98 50 ((Ms.1 98 50) - 1)) q 0 V := by unfold mV; rw [ev]; exact h3.low hn hT (by omega) (fun a i z _ => k2 a i z)
    obtain ⟨M2, e1, e2, e3, e4, e5, e6⟩ := r_keep0 (A := fun k => D.2 (k + 1)) hn hT e50 (by omega) hV' (fun k hk => by unfold mV; rw [ev]; exact k3 k hk)
    have fr : ∀ x i, nF3 x i → ¬ (x = 98 ∧ i = 50) → M2.1 x i = M.1 x i := fun x i z1 z2 => by rw [e3 x i z1 z2, zI_of z2, k2 x i z1]
    rw [k4]
    refine ⟨M2, e1, h'.dd fr ⟨?_, ?_, fun k hk => ?_⟩, by rw [e2]; exact k1, fun x i z => fr x i (nF3_lo (by omega)) (by omega)⟩
    · show _ = nI (D.1 + 1 - dSh D.1); rw [es, e20]; exact e4
    · show D.1 + 1 - dSh D.1 ≤ 20; omega
    · have hk' : k < D.1 + 1 - dSh D.1 := hk
      show mV M2 q (3 + k) (if k + dSh D.1 < D.1 then D.2 (k + dSh D.1) else V)
      rw [es]
      by_cases e : k + 1 < D.1
      · rw [if_pos e]; exact e6 k (by omega)
      · rw [if_neg e, show k = 19 by omega]; exact e5
