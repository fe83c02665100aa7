/-! ===== what class and reference have in common at rest ===== -/
abbrev LWt : Type := Nat → Option (List (Int32 × Int32))
/-- MEN, THINGS, LOOKS, what is told, the laws, how many KNOTS -/
abbrev PPt : Type := Nat × Nat × Nat × AV × LWt × Int32
/-- how many SEEN, by how many KNOWN, rows: 0 steps, 1 thing, 2 saved, 3 struck -/
abbrev SSt : Type := Nat × Int32 × (Nat → Nat → Int32)
def dC (a : Nat) : Prop := a ≤ 1 ∨ (5 ≤ a ∧ a ≤ 46) ∨ (55 ≤ a ∧ a ≤ 64) ∨ (75 ≤ a ∧ a ≤ 93)
def cPl (M : zM) (p : Nat) (q : PPt) : Prop := PlC M p q.1 q.2.1 q.2.2.1 ∧ pC q.1 q.2.1 q.2.2.1 M p = q.2.2.2.1 ∧ (∀ j, j < 3 → lawC M p j = q.2.2.2.2.1 j) ∧ M.1 (p + 14) 0 = q.2.2.2.2.2
def cRf (M : zM) (p : Nat) : Prop := M.2.2 0 2 = some p ∧ M.2.2 55 0 = some p ∧ ∃ s, M.2.2 0 3 = some s ∧ s ≠ p ∧ zisPl s = true
def cV (M : zM) (q : PPt) (w : Nat) (V : AV) : Prop := vC q.1 q.2.1 M w = V
def cIm (M : zM) (p : Nat) (q : PPt) (I : Option AV) : Prop := M.1 0 10 = b2i I.isSome ∧ ∀ J, I = some J → M.2.2 75 0 = some p ∧ cV M q 75 J
/-- what undo() makes of a world by what was noted -/
def sUndo (n T : Nat) (a b c : Int32) (V : AV) : AV :=
  if a = 3 then vset V 9 b.toNatClampNeg c
  else if a = 0 then vset (vset V 0 12 (V 0 12 + c)) 3 b.toNatClampNeg (V 3 b.toNatClampNeg - c)
  else if a = 2 then vset V 7 b.toNatClampNeg (if V 7 b.toNatClampNeg = 0 then 1 else 0)
  else (match ffst (fun k => V 1 k == b) n, ffst (fun k => V 1 k == c) n with
    | some i, some j => vset (vset V 1 i c) 1 j b
    | _, _ => V)
/-- a noted deed is of a MAN or THING there is -/
def dOk (n T : Nat) (a b : Int32) : Prop := ∃ k, b = nI k ∧ (if a = 3 then k < T else k < n)
def dNx (V : AV) (D : Nat × (Nat → AV)) (k : Nat) : AV := if k + 1 < D.1 then D.2 (k + 1) else V
def cDd (M : zM) (q : PPt) (V : AV) (D : Nat × (Nat → AV)) : Prop := M.1 85 0 = nI D.1 ∧ D.1 ≤ 20 ∧ ∀ k, k < D.1 → dOk q.1 q.2.1 (M.1 86 k) (M.1 87 k) ∧ sUndo q.1 q.2.1 (M.1 86 k) (M.1 87 k) (M.1 88 k) (dNx V D k) = D.2 k
def cSi (M : zM) (S : SSt) : Prop := M.1 89 0 = nI S.1 ∧ M.1 89 1 = S.2.1 ∧ ∀ k, k < S.1 → M.1 93 k = S.2.2 3 k ∧ (S.2.2 3 k = -1 → ∀ r, r < 3 → M.1 (90 + r) k = S.2.2 r k) ∧ (S.2.2 3 k ≠ -1 → M.1 90 k = 0 ∧ M.1 91 k = 0)
def cTp (M : zM) (B : Nat × (Nat → Int32)) : Prop := M.1 0 1 = nI B.1 ∧ ∀ k, k < B.1 → M.1 1 k &&& 255 = B.2 k ∧ ∃ w : Int8, M.1 1 k = w.toInt32
def cFt (M : zM) (F : Int32 × Int32) : Prop := M.1 0 5 = F.1 ∧ M.1 0 6 = F.2
def CR (M : zM) (q : PPt) (V : AV) (I : Option AV) (D : Nat × (Nat → AV)) (S : SSt) (B : Nat × (Nat → Int32)) (F : Int32 × Int32) : Prop :=
  ∃ p, cRf M p ∧ cPl M p q ∧ cV M q 55 V ∧ cIm M p q I ∧ cDd M q V D ∧ cSi M S ∧ cTp M B ∧ cFt M F
def mPl (M : zM) (q : PPt) : Prop := MC M q.1 q.2.1 q.2.2.1 ∧ pM q.1 q.2.1 q.2.2.1 M = q.2.2.2.1 ∧ (∀ j, j < 3 → lawM M j = q.2.2.2.2.1 j) ∧ M.1 100 8 = q.2.2.2.2.2
def mTr (M : zM) : Prop := M.1 98 51 = 0 ∧ M.1 98 52 = -1
def mV (M : zM) (q : PPt) (f : Nat) (V : AV) : Prop := vM q.1 q.2.1 M f = V
def mIm (M : zM) (q : PPt) (I : Option AV) : Prop := M.1 98 49 = b2i I.isSome ∧ ∀ J, I = some J → mV M q 2 J
def mDd (M : zM) (q : PPt) (D : Nat × (Nat → AV)) : Prop := M.1 98 50 = nI D.1 ∧ D.1 ≤ 20 ∧ ∀ k, k < D.1 → mV M q (3 + k) (D.2 k)
def mSi (M : zM) (S : SSt) : Prop := M.1 98 61 = nI S.1 ∧ M.1 98 62 = S.2.1 ∧ ∀ k, k < S.1 → M.1 140 k = S.2.2 3 k ∧ (S.2.2 3 k = -1 → ∀ r, r < 3 → M.1 (137 + r) k = S.2.2 r k)
def mTp (M : zM) (B : Nat × (Nat → Int32)) : Prop := M.1 98 2 = nI B.1 ∧ ∀ k, k < B.1 → M.1 99 k = B.2 k
def mFt (M : zM) (F : Int32 × Int32) : Prop := M.1 98 28 = F.1 ∧ M.1 98 29 = F.2
def MR (M : zM) (q : PPt) (V : AV) (I : Option AV) (D : Nat × (Nat → AV)) (S : SSt) (B : Nat × (Nat → Int32)) (F : Int32 × Int32) : Prop :=
  mTr M ∧ mPl M q ∧ mV M q 0 V ∧ mIm M q I ∧ mDd M q D ∧ mSi M S ∧ mTp M B ∧ mFt M F
/-! what is so of the abstract state alone -/
def pWo (P : AV) (T : Nat) : Prop := ∀ t, t < T → ∃ d : Nat, d ≤ 99 ∧ P 6 t = nI d
def pRu (P : AV) (n : Nat) : Prop := ∀ m, m < n → ∃ r : Nat, r ≤ 99 ∧ P 3 m = nI r
def pI (q : PPt) : Prop := (q.1 ≤ 6 ∧ q.2.1 ≤ 8 ∧ q.2.2.1 ≤ 10) ∧ pOd q.2.2.2.1 ∧ pDp q.2.2.2.1 q.2.1 ∧ pLk q.2.2.2.1 q.1 q.2.2.1 ∧ pWo q.2.2.2.1 q.2.1 ∧ pRu q.2.2.2.1 q.1
def vHb (V : AV) (n : Nat) : Prop := ∀ m, m < n → V 7 m = 0 ∨ V 7 m = 1
/-- the rank has each MAN once -/
def vPm (V : AV) (n : Nat) : Prop := ∀ i j, i < n → j < n → V 1 i = V 1 j → i = j
/-- who isn't IN goes for nothing -/
def vGz (V : AV) (n : Nat) : Prop := ∀ m, m < n → V 4 m = 1 ∨ V 5 m = -2
def wI (q : PPt) (V : AV) : Prop := vInv q.2.2.2.1 V q.1 q.2.1 ∧ vHb V q.1 ∧ vPm V q.1 ∧ vGz V q.1
def sI (q : PPt) (S : SSt) : Prop := S.1 ≤ 24 ∧ (S.2.1 = -1 ∨ ∃ k, k ≤ S.1 ∧ S.2.1 = nI k) ∧ ∀ k, k < S.1 → (S.2.2 3 k = -1 ∧ (∃ s, 1 ≤ s ∧ s ≤ 60 ∧ S.2.2 0 k = nI s) ∧ (∃ t, t < q.2.1 ∧ S.2.2 1 k = nI t) ∧ (S.2.2 2 k = 0 ∨ S.2.2 2 k = 1)) ∨ ∃ j, j < k ∧ S.2.2 3 k = nI j
def AI (q : PPt) (V : AV) (I : Option AV) (D : Nat × (Nat → AV)) (S : SSt) (B : Nat × (Nat → Int32)) : Prop := pI q ∧ wI q V ∧ (∀ J, I = some J → wI q J) ∧ (∀ k, k < D.1 → wI q (D.2 k)) ∧ sI q S ∧ (B.1 ≤ 700 ∧ ∀ k, k < B.1 → ∃ b, b ≤ 255 ∧ B.2 k = nI b)
/-- Rel: of a memory at rest -/
def Rel (M : zM) : Prop := ∃ q V I D S B F, AI q V I D S B ∧ CR M q V I D S B F ∧ MR M q V I D S B F
/-! what else may change -/
theorem pl_dC {p a : Nat} (hp : zisPl p = true) (h : p ≤ a) (h2 : a ≤ p + 20) : dC a := by
  have := zisPl_of hp
  unfold isPl at this
  unfold dC
  omega
theorem cPl.mono {M M' : zM} {p : Nat} {q : PPt} (h : cPl M p q) (he : ∀ a i, p ≤ a → a ≤ p + 20 → M'.1 a i = M.1 a i) : cPl M' p q := by
  obtain ⟨h1, h2, h3, h4⟩ := h
  refine ⟨h1.mono he, ?_, fun j hj => ?_, by rw [he _ _ (by omega) (by omega)]; exact h4⟩
  · rw [← h2]
    funext c k
    unfold pC
    by_cases hd : pdim q.1 q.2.1 q.2.2.1 c k = true
    · rw [if_pos hd, if_pos hd]
      apply he
      · omega
      · have : c ≤ 12 := by
          unfold pdim at hd
          repeat' (split at hd)
          all_goals first | omega | cases hd
        omega
    · rw [if_neg hd, if_neg hd]
  · rw [← h3 j hj]
    unfold lawC
    rw [he _ j (by omega) (by omega), he _ j (by omega) (by omega)]
    congr 2
    funext
    congr 1
    funext k
    rw [he _ k (by omega) (by omega), he _ k (by omega) (by omega)]
theorem cV.mono {M M' : zM} {q : PPt} {w : Nat} {V : AV} (h : cV M q w V) (he : ∀ a i, w ≤ a → a ≤ w + 9 → ¬ (a = w ∧ i = 15) → M'.1 a i = M.1 a i) : cV M' q w V := by
  unfold cV at h ⊢
  rw [← h]
  funext c k
  unfold vC
  by_cases hd : vdim q.1 q.2.1 c k = true
  · rw [if_pos hd, if_pos hd]
    rcases vdim_cases hd with ⟨rfl, a1, a2⟩ | ⟨a1, a2, a3⟩ | ⟨a1, a2, a3⟩
    · exact he _ _ (by omega) (by omega) (by omega)
    · exact he _ _ (by omega) (by omega) (by omega)
    · exact he _ _ (by omega) (by omega) (by omega)
  · rw [if_neg hd, if_neg hd]
theorem cIm.mono {M M' : zM} {p : Nat} {q : PPt} {I : Option AV} (h : cIm M p q I) (h0 : M'.1 0 10 = M.1 0 10) (he : ∀ a i, 75 ≤ a → a ≤ 84 → M'.1 a i = M.1 a i) (hr : M'.2.2 75 0 = M.2.2 75 0) : cIm M' p q I :=
  ⟨by rw [h0]; exact h.1, fun J hJ => ⟨by rw [hr]; exact (h.2 J hJ).1, (h.2 J hJ).2.mono (fun a i q1 q2 _ => he a i q1 q2)⟩⟩
theorem cDd.mono {M M' : zM} {q : PPt} {V : AV} {D : Nat × (Nat → AV)} (h : cDd M q V D) (he : ∀ a i, 85 ≤ a → a ≤ 88 → M'.1 a i = M.1 a i) : cDd M' q V D := by
  refine ⟨by rw [he _ _ (by omega) (by omega)]; exact h.1, h.2.1, fun k hk => ?_⟩
  rw [he _ _ (by omega) (by omega), he _ _ (by omega) (by omega), he _ _ (by omega) (by omega)]
  exact h.2.2 k hk
theorem cSi.mono {M M' : zM} {S : SSt} (h : cSi M S) (he : ∀ a i, 89 ≤ a → a ≤ 93 → M'.1 a i = M.1 a i) : cSi M' S := by
  refine ⟨by rw [he _ _ (by omega) (by omega)]; exact h.1, by rw [he _ _ (by omega) (by omega)]; exact h.2.1, fun k hk => ?_⟩
  refine ⟨by rw [he _ _ (by omega) (by omega)]; exact (h.2.2 k hk).1, fun e r hr => by rw [he _ _ (by omega) (by omega)]; exact (h.2.2 k hk).2.1 e r hr, fun e => ?_⟩
  rw [he _ _ (by omega) (by omega), he _ _ (by omega) (by omega)]
  exact (h.2.2 k hk).2.2 e
theorem cTp.mono {M M' : zM} {B : Nat × (Nat → Int32)} (h : cTp M B) (h0 : M'.1 0 1 = M.1 0 1) (he : ∀ i, M'.1 1 i = M.1 1 i) : cTp M' B :=
  ⟨by rw [h0]; exact h.1, fun k hk => by rw [he]; exact h.2 k hk⟩
theorem cFt.mono {M M' : zM} {F : Int32 × Int32} (h : cFt M F) (h0 : M'.1 0 5 = M.1 0 5) (h1 : M'.1 0 6 = M.1 0 6) : cFt M' F := ⟨by rw [h0]; exact h.1, by rw [h1]; exact h.2⟩
theorem CR.mono {M M' : zM} {q : PPt} {V : AV} {I : Option AV} {D : Nat × (Nat → AV)} {S : SSt} {B : Nat × (Nat → Int32)} {F : Int32 × Int32} (h : CR M q V I D S B F) (he : ∀ a i, dC a → ¬ (a = 55 ∧ i = 15) → M'.1 a i = M.1 a i) (hr : ∀ a, a ≠ 65 → a < 98 → M'.2.2 a = M.2.2 a) : CR M' q V I D S B F := by
  obtain ⟨p, h1, h2, h3, h4, h5, h6, h7, h8⟩ := h
  have g : ∀ a i, (a ≤ 1 ∨ (75 ≤ a ∧ a ≤ 93)) → M'.1 a i = M.1 a i := fun a i z => he a i (by unfold dC; omega) (by omega)
  refine ⟨p, ⟨by rw [hr 0 (by omega) (by omega)]; exact h1.1, by rw [hr 55 (by omega) (by omega)]; exact h1.2.1, by rw [hr 0 (by omega) (by omega)]; exact h1.2.2⟩, h2.mono (fun a i z1 z2 => he a i (pl_dC h2.1.1 z1 z2) ?_), h3.mono (fun a i z1 z2 z3 => he a i (by unfold dC; omega) z3), h4.mono (g _ _ (by omega)) (fun a i z1 z2 => g a i (by omega)) (by rw [hr 75 (by omega) (by omega)]), h5.mono (fun a i z1 z2 => g a i (by omega)), h6.mono (fun a i z1 z2 => g a i (by omega)), h7.mono (g _ _ (by omega)) (fun i => g _ _ (by omega)), h8.mono (g _ _ (by omega)) (g _ _ (by omega))⟩
  have := isPl_lt h2.1.1
  omega
/-- which cells the reference's state at rest lies in -/
def dM (a i : Nat) : Prop := (a = 98 ∧ (i = 2 ∨ i = 28 ∨ i = 29 ∨ i = 49 ∨ i = 50 ∨ i = 51 ∨ i = 52 ∨ i = 61 ∨ i = 62)) ∨ (99 ≤ a ∧ a ≤ 115) ∨ (118 ≤ a ∧ a ≤ 122 ∧ i ≠ 1) ∨ (123 ≤ a ∧ a ≤ 129 ∧ ¬ (6 ≤ i ∧ i < 12)) ∨ (130 ≤ a ∧ a ≤ 131 ∧ ¬ (8 ≤ i ∧ i < 16)) ∨ (137 ≤ a ∧ a ≤ 140)
theorem mPl.mono {M M' : zM} {q : PPt} (h : mPl M q) (he : ∀ a i, 100 ≤ a → a ≤ 115 → M'.1 a i = M.1 a i) : mPl M' q := by
  obtain ⟨h1, h2, h3, h4⟩ := h
  have f : FrM 0 (((fun a i => if 100 ≤ a ∧ a ≤ 115 then M.1 a i else M'.1 a i), M'.2) : zM) M' := ⟨fun a i _ => by
    dsimp only
    by_cases z : 100 ≤ a ∧ a ≤ 115
    · rw [if_pos z]; exact he a i z.1 z.2
    · rw [if_neg z], rfl, fun _ _ _ => rfl⟩
  have e2 : (fun k => cvK (M'.1 114 k) (M'.1 115 k)) = (fun k => cvK (M.1 114 k) (M.1 115 k)) := by
    funext k; rw [he 114 k (by omega) (by omega), he 115 k (by omega) (by omega)]
  refine ⟨?_, ?_, fun j hj => ?_, by rw [he _ _ (by omega) (by omega)]; exact h4⟩
  · obtain ⟨k1, k2, k3, k4⟩ := h1
    refine ⟨⟨by rw [he 100 0 (by omega) (by omega)]; exact k1.1, k1.2⟩, ⟨by rw [he 100 1 (by omega) (by omega)]; exact k2.1, k2.2⟩, ⟨by rw [he 100 2 (by omega) (by omega)]; exact k3.1, k3.2⟩, fun j hj => ?_⟩
    have := k4 j hj
    unfold lawOKM at this ⊢
    rw [he 112 j (by omega) (by omega), he 113 j (by omega) (by omega), e2]
    obtain ⟨a, b, g1, g2, g3, g4, g5, g6⟩ := this
    exact ⟨a, b, g1, g2, g3, g4, fun k q1 q2 => by rw [he 114 k (by omega) (by omega), he 115 k (by omega) (by omega)]; exact g5 k q1 q2, g6⟩
  · rw [← h2]
    funext c k
    unfold pM
    by_cases hd : pdim q.1 q.2.1 q.2.2.1 c k = true
    · rw [if_pos hd, if_pos hd]
      apply he
      · unfold pa
        repeat' split
        all_goals simp
      · unfold pa
        repeat' split
        all_goals simp
    · rw [if_neg hd, if_neg hd]
  · rw [← h3 j hj]
    unfold lawM
    rw [he 112 j (by omega) (by omega), he 113 j (by omega) (by omega), e2]
theorem ma_dM {n T f c k : Nat} (hn : n ≤ 6) (hT : T ≤ 8) (hd : vdim n T c k = true) (hf : f ≠ 1) : dM (ma f c k).1 (ma f c k).2 := by
  unfold dM
  rcases vdim_cases hd with ⟨rfl, a1, a2⟩ | ⟨a1, a2, a3⟩ | ⟨a1, a2, a3⟩
  · rw [(ma_0 a1 a2).1, (ma_0 a1 a2).2]
    repeat' split
    all_goals omega
  · rw [(ma_m a1 a2).1, (ma_m a1 a2).2]
    split <;> omega
  · rw [(ma_t a1 a2).1, (ma_t a1 a2).2]
    omega
theorem mV.mono {M M' : zM} {q : PPt} {f : Nat} {V : AV} (h : mV M q f V) (hn : q.1 ≤ 6) (hT : q.2.1 ≤ 8) (hf : f ≠ 1) (he : ∀ a i, dM a i → M'.1 a i = M.1 a i) : mV M' q f V := by
  unfold mV at h ⊢
  rw [← h]
  exact vM_keeps (fun c k hd => he _ _ (ma_dM hn hT hd hf)) (he _ _ (by unfold dM; omega)) (he _ _ (by unfold dM; omega))
theorem mSi.mono {M M' : zM} {S : SSt} (h : mSi M S) (h0 : M'.1 98 61 = M.1 98 61) (h1 : M'.1 98 62 = M.1 98 62) (he : ∀ a i, 137 ≤ a → a ≤ 140 → M'.1 a i = M.1 a i) : mSi M' S := by
  refine ⟨by rw [h0]; exact h.1, by rw [h1]; exact h.2.1, fun k hk => ⟨by rw [he _ _ (by omega) (by omega)]; exact (h.2.2 k hk).1, fun e r hr => by rw [he _ _ (by omega) (by omega)]; exact (h.2.2 k hk).2 e r hr⟩⟩
theorem mTp.mono {M M' : zM} {B : Nat × (Nat → Int32)} (h : mTp M B) (h0 : M'.1 98 2 = M.1 98 2) (he : ∀ i, M'.1 99 i = M.1 99 i) : mTp M' B :=
  ⟨by rw [h0]; exact h.1, fun k hk => by rw [he]; exact h.2 k hk⟩
theorem MR.mono {M M' : zM} {q : PPt} {V : AV} {I : Option AV} {D : Nat × (Nat → AV)} {S : SSt} {B : Nat × (Nat → Int32)} {F : Int32 × Int32} (h : MR M q V I D S B F) (he : ∀ a i, dM a i → M'.1 a i = M.1 a i) : MR M' q V I D S B F := by
  obtain ⟨h1, h2, h3, h4, h5, h6, h7, h8⟩ := h
  have hn : q.1 ≤ 6 := h2.1.1.2
  have hT : q.2.1 ≤ 8 := h2.1.2.1.2
  refine ⟨⟨by rw [he _ _ (by unfold dM; omega)]; exact h1.1, by rw [he _ _ (by unfold dM; omega)]; exact h1.2⟩, h2.mono (fun a i z1 z2 => he a i (by unfold dM; omega)), h3.mono hn hT (by omega) he, ⟨by rw [he _ _ (by unfold dM; omega)]; exact h4.1, fun J hJ => (h4.2 J hJ).mono hn hT (by omega) he⟩, ⟨by rw [he _ _ (by unfold dM; omega)]; exact h5.1, h5.2.1, fun k hk => (h5.2.2 k hk).mono hn hT (by omega) he⟩, h6.mono (he _ _ (by unfold dM; omega)) (he _ _ (by unfold dM; omega)) (fun a i z1 z2 => he a i (by unfold dM; omega)), h7.mono (he _ _ (by unfold dM; omega)) (fun i => he _ _ (by unfold dM; omega)), ⟨by rw [he _ _ (by unfold dM; omega)]; exact h8.1, by rw [he _ _ (by unfold dM; omega)]; exact h8.2⟩⟩
/-! what a number given to a call is -/
theorem man_of {n : Nat} {x : Int32} (hn : n < 100) (h0 : ¬ x < 0) (h : ¬ nI n ≤ x) : ∃ m, m < n ∧ x = nI m := by
  have e : (nI n).toInt = n := nI_toInt (by omega)
  rw [Int32.lt_iff_toInt_lt] at h0
  rw [Int32.le_iff_toInt_le, e] at h
  have z : (0 : Int32).toInt = 0 := rfl
  refine ⟨x.toInt.toNat, by omega, ?_⟩
  apply Int32.toInt_inj.mp
  rw [nI_toInt (by omega)]
  omega
