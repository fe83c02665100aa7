/-! order: rows of men, one after the other -/
def swA (A : Nat → Int32) (a b : Nat) : Nat → Int32 := fset (fset A a (A b)) b (A a)
def rvA (A : Nat → Int32) (lo hi : Nat) : Nat → (Nat → Int32)
  | 0 => A
  | t + 1 => swA (rvA A lo hi t) (lo + t) (hi - t)
def nxJ (c k : Nat) (A : Nat → Int32) : Nat := match ffst (fun l => decide (A (c - 2 - k) ≤ A (c - 1 - l))) k with
  | some l => c - 1 - l
  | none => c - 1 - k
def nxF (c : Nat) (A : Nat → Int32) : Bool × (Nat → Int32) := match ffst (fun k => decide (A (c - 2 - k) ≤ A (c - 1 - k))) (c - 1) with
  | none => (false, A)
  | some k => (true, rvA (swA A (c - 2 - k) (nxJ c k A)) (c - 1 - k) (c - 1) ((k + 1) / 2))
def arrO (L : List Nat) : Nat → Int32 := fun i => nI (L.getD i 0)
def samO (c : Nat) (A A' : Nat → Int32) : Bool := (List.range c).all (fun i => decide (A i = A' i))
def perms : Nat → Nat → List (List Nat)
  | 0, _ => [[]]
  | d + 1, mask => (List.range 6).flatMap (fun s => if mask.testBit s then (perms d (mask - 2 ^ s)).map (s :: ·) else [])
def pcnt (mask : Nat) : Nat := ((List.range 6).filter (fun s => mask.testBit s)).length
def stepOK (c : Nat) (E : List (List Nat)) : Bool := match E with
  | [] => false
  | [L] => !(nxF c (arrO L)).1
  | L :: L' :: r => (nxF c (arrO L)).1 && samO c (nxF c (arrO L)).2 (arrO L') && stepOK c (L' :: r)
def sortA : List Nat → (Nat → Int32)
  | [] => fun _ => 0
  | s :: R => insF (sortA R) (nI s) R.length
def maskO (R : List Nat) : Nat := R.foldr (fun s m => m ||| 2 ^ s) 0
def arrg : Nat → List (List Nat)
  | 0 => [[]]
  | c + 1 => (arrg c).flatMap (fun R => ((List.range 6).filter (fun s => !R.contains s)).map (· :: R))
set_option maxRecDepth 100000 in
theorem st_all : (List.range 64).all (fun m => decide (4 < pcnt m) || stepOK (pcnt m) (perms (pcnt m) m)) = true := by decide +kernel
set_option maxRecDepth 100000 in
theorem so_all : (List.range 5).all (fun c => (arrg c).all (fun R => samO c (sortA R) (arrO ((perms c (maskO R)).getD 0 [])) && decide (pcnt (maskO R) = c) && decide (maskO R < 64))) = true := by decide +kernel
set_option maxRecDepth 100000 in
theorem bt_all : (List.range 64).all (fun m => (List.range 6).all (fun s => decide ((((nI m : Int32) >>> ((nI s : Int32) &&& 31)) &&& 1) = if m.testBit s then 1 else 0) && decide ((nI m ||| ((1 : Int32) <<< ((nI s : Int32) &&& 31))) = nI (m ||| 2 ^ s)) && decide (m ||| 2 ^ s < 64) && (!m.testBit s || (decide ((nI m &&& (((1 : Int32) <<< ((nI s : Int32) &&& 31)) ^^^ (-1))) = nI (m - 2 ^ s)) && decide (pcnt (m - 2 ^ s) + 1 = pcnt m) && decide (m - 2 ^ s < 64) && (List.range 6).all (fun u => ((m - 2 ^ s).testBit u) == (m.testBit u && decide (u ≠ s))))))) = true := by decide +kernel
set_option maxRecDepth 100000 in
theorem pc_all : (List.range 64).all (fun m => (decide (m = 0) == decide (pcnt m = 0)) && decide (∀ u, u < 6 → True)) = true := by decide +kernel
theorem st_at {m : Nat} (h : m < 64) (h4 : pcnt m ≤ 4) : stepOK (pcnt m) (perms (pcnt m) m) = true := by
  have a := List.all_eq_true.mp st_all m (List.mem_range.mpr h)
  rw [Bool.or_eq_true] at a
  rcases a with a | a
  · have := of_decide_eq_true a; omega
  · exact a
theorem samO_at {c : Nat} {A A' : Nat → Int32} (h : samO c A A' = true) : ∀ i, i < c → A i = A' i := fun i hi => of_decide_eq_true (List.all_eq_true.mp h i (List.mem_range.mpr hi))
theorem so_at {c : Nat} {R : List Nat} (hc : c ≤ 4) (h : R ∈ arrg c) : (∀ i, i < c → sortA R i = arrO ((perms c (maskO R)).getD 0 []) i) ∧ pcnt (maskO R) = c ∧ maskO R < 64 := by
  have a := List.all_eq_true.mp so_all c (List.mem_range.mpr (by omega))
  have a := List.all_eq_true.mp a R h
  rw [Bool.and_eq_true, Bool.and_eq_true] at a
  exact ⟨samO_at a.1.1, of_decide_eq_true a.1.2, of_decide_eq_true a.2⟩
/-- each row of a mask: so long, of its men, each once -/
def rowB (c mask : Nat) (L : List Nat) : Bool := decide (L.length = c) && (List.range c).all (fun i => decide (L.getD i 0 < 6) && mask.testBit (L.getD i 0) && (List.range c).all (fun j => decide (i = j) || !decide (L.getD i 0 = L.getD j 0)))
set_option maxRecDepth 100000 in
theorem rw_all : (List.range 64).all (fun m => decide (4 < pcnt m) || (decide ((perms (pcnt m) m).length ≤ 24) && decide (0 < (perms (pcnt m) m).length) && (perms (pcnt m) m).all (rowB (pcnt m) m))) = true := by decide +kernel
theorem rw_at {m : Nat} (h : m < 64) (h4 : pcnt m ≤ 4) : (perms (pcnt m) m).length ≤ 24 ∧ 0 < (perms (pcnt m) m).length ∧ ∀ L, L ∈ perms (pcnt m) m → rowB (pcnt m) m L = true := by
  have a := List.all_eq_true.mp rw_all m (List.mem_range.mpr h)
  rw [Bool.or_eq_true] at a
  rcases a with a | a
  · have := of_decide_eq_true a; omega
  · rw [Bool.and_eq_true, Bool.and_eq_true] at a
    exact ⟨of_decide_eq_true a.1.1, of_decide_eq_true a.1.2, fun L hL => List.all_eq_true.mp a.2 L hL⟩
theorem stepOK_at {c : Nat} : ∀ (E : List (List Nat)), stepOK c E = true → ∀ j, j < E.length → (nxF c (arrO (E.getD j []))).1 = decide (j + 1 < E.length) ∧ (j + 1 < E.length → ∀ i, i < c → (nxF c (arrO (E.getD j []))).2 i = arrO (E.getD (j + 1) []) i) := by
  intro E
  induction E with
  | nil => intro _ j hj; exact absurd hj (by simp)
  | cons L r ih =>
    intro h j hj
    cases r with
    | nil =>
      have h' : (!(nxF c (arrO L)).1) = true := h
      have j0 : j = 0 := by simpa using hj
      subst j0
      refine ⟨?_, fun w => absurd w (by simp)⟩
      show (nxF c (arrO L)).1 = _
      cases e : (nxF c (arrO L)).1 with
      | true => rw [e] at h'; cases h'
      | false => simp
    | cons L' r =>
      have h' : ((nxF c (arrO L)).1 && samO c (nxF c (arrO L)).2 (arrO L') && stepOK c (L' :: r)) = true := h
      rw [Bool.and_eq_true, Bool.and_eq_true] at h'
      cases j with
      | zero =>
        refine ⟨?_, fun _ => samO_at h'.1.2⟩
        show (nxF c (arrO L)).1 = _
        rw [h'.1.1]; simp
      | succ j =>
        have := ih h'.2 j (by simpa using hj)
        refine ⟨?_, fun w => this.2 (by simpa using w)⟩
        have e := this.1
        show (nxF c (arrO ((L' :: r).getD j []))).1 = _
        rw [e]
        simp
theorem bt_at {m s : Nat} (hm : m < 64) (hs : s < 6) : (((nI m : Int32) >>> ((nI s : Int32) &&& 31)) &&& 1) = (if m.testBit s then 1 else 0) ∧ (nI m ||| ((1 : Int32) <<< ((nI s : Int32) &&& 31))) = nI (m ||| 2 ^ s) ∧ m ||| 2 ^ s < 64 ∧ (m.testBit s = true → (nI m &&& (((1 : Int32) <<< ((nI s : Int32) &&& 31)) ^^^ (-1))) = nI (m - 2 ^ s) ∧ pcnt (m - 2 ^ s) + 1 = pcnt m ∧ m - 2 ^ s < 64 ∧ ∀ u, u < 6 → (m - 2 ^ s).testBit u = (m.testBit u && decide (u ≠ s))) := by
  have a := List.all_eq_true.mp bt_all m (List.mem_range.mpr hm)
  have a := List.all_eq_true.mp a s (List.mem_range.mpr hs)
  rw [Bool.and_eq_true, Bool.and_eq_true, Bool.and_eq_true] at a
  obtain ⟨⟨⟨a1, a2⟩, a3⟩, a4⟩ := a
  refine ⟨of_decide_eq_true a1, of_decide_eq_true a2, of_decide_eq_true a3, fun hb => ?_⟩
  rw [hb, Bool.not_true, Bool.false_or, Bool.and_eq_true, Bool.and_eq_true, Bool.and_eq_true] at a4
  obtain ⟨⟨⟨b1, b2⟩, b3⟩, b4⟩ := a4
  refine ⟨of_decide_eq_true b1, of_decide_eq_true b2, of_decide_eq_true b3, fun u hu => ?_⟩
  have := List.all_eq_true.mp b4 u (List.mem_range.mpr hu)
  simpa using this
theorem pc_at {m : Nat} (hm : m < 64) : m = 0 ↔ pcnt m = 0 := by
  have a := List.all_eq_true.mp pc_all m (List.mem_range.mpr hm)
  rw [Bool.and_eq_true] at a
  have b := a.1
  by_cases h : m = 0
  · simp [h] at b ⊢; exact b
  · by_cases g : pcnt m = 0
    · simp [h, g] at b
    · simp [h, g]
/-! what depends on the first c alone -/
theorem swA_congr {A A' : Nat → Int32} {c a b : Nat} (h : ∀ i, i < c → A i = A' i) (ha : a < c) (hb : b < c) : ∀ i, i < c → swA A a b i = swA A' a b i := by
  intro i hi
  unfold swA fset
  rw [h a ha, h b hb, h i hi]
theorem rvA_congr {A A' : Nat → Int32} {c lo hi : Nat} (h : ∀ i, i < c → A i = A' i) : ∀ t, lo + t ≤ c → hi < c → ∀ i, i < c → rvA A lo hi t i = rvA A' lo hi t i := by
  intro t
  induction t with
  | zero => intro _ _; exact h
  | succ t ih =>
    intro h1 h2
    exact swA_congr (ih (by omega) h2) (by omega) (by omega)
theorem nxF_congr {A A' : Nat → Int32} {c : Nat} (h : ∀ i, i < c → A i = A' i) : (nxF c A).1 = (nxF c A').1 ∧ ∀ i, i < c → (nxF c A).2 i = (nxF c A').2 i := by
  unfold nxF
  rw [ffst_congr (P := fun k => decide (A (c - 2 - k) ≤ A (c - 1 - k))) (Q := fun k => decide (A' (c - 2 - k) ≤ A' (c - 1 - k))) (fun k hk => by rw [h _ (by omega), h _ (by omega)])]
  cases e : ffst (fun k => decide (A' (c - 2 - k) ≤ A' (c - 1 - k))) (c - 1) with
  | none => exact ⟨rfl, h⟩
  | some k =>
    have hk := (ffst_some e).1
    refine ⟨rfl, ?_⟩
    have ej : nxJ c k A = nxJ c k A' := by
      unfold nxJ
      rw [ffst_congr (P := fun l => decide (A (c - 2 - k) ≤ A (c - 1 - l))) (Q := fun l => decide (A' (c - 2 - k) ≤ A' (c - 1 - l))) (fun l hl => by rw [h _ (by omega), h _ (by omega)])]
    have hj : nxJ c k A' < c := by
      unfold nxJ
      split <;> omega
    dsimp only
    rw [ej]
    exact rvA_congr (swA_congr h (by omega) hj) _ (by omega) (by omega)
/-! the class's turnRow -/
theorem c_change4 {M : zM} {A : Nat → Int32} {a b : Nat} (ha : a < 4) (hb : b < 4) : gX9_changeInRow (nI a) (nI b) (rset M 2 A) = some (rset M 2 (swA A a b)) := by
  unfold gX9_changeInRow
  rw [if_neg (nI_pos (by omega)), if_neg (nI_pos (by omega)), litF, if_neg (nI_ge ha (by omega)), if_pos ((nI_lt_iff (by omega) (by omega)).mpr hb), zg_true (zok_nI ha (by omega)), zlet_eq, zg_true (zok_nI hb (by omega)), zg_true (zok_nI ha (by omega)), zlet_eq, zg_true (zok_nI hb (by omega)), zlet_eq, nI_cl (by omega), nI_cl (by omega), rset_at, zI_rset, zI_rset]
  rfl
theorem c_rev {M : zM} {A : Nat → Int32} {c k : Nat} (hc : c ≤ 4) (hk : k + 1 < c) : zfix zFu gX9_turnRow_L85 (nI (c - 1 - k), nI (c - 1), rset M 2 A) = some (1, rset M 2 (rvA A (c - 1 - k) (c - 1) ((k + 1) / 2))) := by
  refine zfix_run (fun t => (nI (c - 1 - k + t), nI (c - 1 - t), rset M 2 (rvA A (c - 1 - k) (c - 1) t))) ((k + 1) / 2) rfl (by unfold zFu; omega) ?_ ?_
  · intro t ht rc
    unfold gX9_turnRow_L85
    dsimp only
    rw [if_neg (nI_ge (by omega) (by omega)), zcV_some (c_change4 (by omega) (by omega)), nI_1, show nI (c - 1 - t) + (-1) = nI (c - 1 - (t + 1)) by rw [show c - 1 - t = (c - 1 - (t + 1)) + 1 by omega]; exact nI_dec']
    rfl
  · intro rc
    unfold gX9_turnRow_L85
    dsimp only
    rw [if_pos (nI_le (by omega) (by omega))]
theorem c_turn {M : zM} {A : Nat → Int32} {c : Nat} (hc : c ≤ 4) : gX9_turnRow (nI c) (rset M 2 A) = some (b2i (nxF c A).1, rset M 2 (nxF c A).2) := by
  unfold gX9_turnRow
  have J31n : ∀ x : Int32, x < 0 → gX9_turnRow_J31 (nI c) x (rset M 2 A) = some (0, rset M 2 A) := fun x hx => by
    unfold gX9_turnRow_J31
    rw [if_neg (Int32.not_le.mpr hx)]
  have J69 : ∀ k j, k + 1 < c → j < c → gX9_turnRow_J69 (nI c) (nI (c - 2 - k)) (nI j) (rset M 2 A) = some (1, rset M 2 (rvA (swA A (c - 2 - k) j) (c - 1 - k) (c - 1) ((k + 1) / 2))) := fun k j hk hj => by
    unfold gX9_turnRow_J69
    rw [zcV_some (c_change4 (by omega) (by omega)), nI_1, show nI c - 1 = nI (c - 1) by rw [show c = (c - 1) + 1 by omega]; exact nI_dec, show c - 2 - k + 1 = c - 1 - k by omega]
    exact c_rev hc hk
  have J31 : ∀ k, k + 1 < c → gX9_turnRow_J31 (nI c) (nI (c - 2 - k)) (rset M 2 A) = some (1, rset M 2 (rvA (swA A (c - 2 - k) (nxJ c k A)) (c - 1 - k) (c - 1) ((k + 1) / 2))) := fun k hk => by
    unfold gX9_turnRow_J31
    rw [if_pos (nI_nn (by omega)), show nI c - 1 = nI (c - 1) by rw [show c = (c - 1) + 1 by omega]; exact nI_dec]
    rw [zfix_find (B := gX9_turnRow_L41 (nI c) (nI (c - 2 - k)) (rset M 2 A)) (s0 := nI (c - 1)) (fun l => nI (c - 1 - l)) (fun l => decide (A (c - 2 - k) ≤ A (c - 1 - l))) (fun l => some (1, rset M 2 (rvA (swA A (c - 2 - k) (c - 1 - l)) (c - 1 - k) (c - 1) ((k + 1) / 2)))) (some (1, rset M 2 (rvA (swA A (c - 2 - k) (c - 1 - k)) (c - 1 - k) (c - 1) ((k + 1) / 2)))) k (by rw [Nat.sub_zero]) (by unfold zFu; omega) ?_ ?_ ?_]
    · unfold nxJ
      cases ffst (fun l => decide (A (c - 2 - k) ≤ A (c - 1 - l))) k <;> rfl
    · intro l hl hp rc
      have hp' : ¬ A (c - 2 - k) ≤ A (c - 1 - l) := by simpa using hp
      unfold gX9_turnRow_L41
      rw [nI_1, if_neg (nI_ge (by omega) (by omega)), zg_true (zok_nI (show c - 1 - l < 4 by omega) (by omega)), zg_true (zok_nI (show c - 2 - k < 4 by omega) (by omega)), nI_cl (by omega), nI_cl (by omega), rset_at, if_neg hp', show nI (c - 1 - l) + (-1) = nI (c - 1 - (l + 1)) by rw [show c - 1 - l = (c - 1 - (l + 1)) + 1 by omega]; exact nI_dec']
    · intro l hl hp rc
      have hp' : A (c - 2 - k) ≤ A (c - 1 - l) := by simpa using hp
      unfold gX9_turnRow_L41
      rw [nI_1, if_neg (nI_ge (by omega) (by omega)), zg_true (zok_nI (show c - 1 - l < 4 by omega) (by omega)), zg_true (zok_nI (show c - 2 - k < 4 by omega) (by omega)), nI_cl (by omega), nI_cl (by omega), rset_at, if_pos hp', J69 k _ hk (by omega)]
    · intro rc
      unfold gX9_turnRow_L41
      rw [nI_1, if_pos (nI_le (by omega) (by omega)), J69 k _ hk (by omega)]
  rcases Nat.eq_zero_or_pos c with c0 | c0
  · subst c0
    show gX9_turnRow_L4 (nI 0) (rset M 2 A) (zfix _ _) (nI 0 - 2) = _
    unfold gX9_turnRow_L4
    rw [if_pos (by decide), J31n _ (by decide)]
    rfl
  · rw [zfix_find (B := gX9_turnRow_L4 (nI c) (rset M 2 A)) (fun k => nI (c - 1 - k) - 1) (fun k => decide (A (c - 2 - k) ≤ A (c - 1 - k))) (fun k => some (1, rset M 2 (rvA (swA A (c - 2 - k) (nxJ c k A)) (c - 1 - k) (c - 1) ((k + 1) / 2)))) (some (0, rset M 2 A)) (c - 1) ?_ (by unfold zFu; omega) ?_ ?_ ?_]
    · unfold nxF
      cases ffst (fun k => decide (A (c - 2 - k) ≤ A (c - 1 - k))) (c - 1) <;> rfl
    · rw [Nat.sub_zero]
      rcases (show c = 1 ∨ c = 2 ∨ c = 3 ∨ c = 4 by omega) with rfl | rfl | rfl | rfl <;> decide
    · intro k hk hp rc
      have hp' : ¬ A (c - 2 - k) ≤ A (c - 1 - k) := by simpa using hp
      unfold gX9_turnRow_L4
      rw [show nI (c - 1 - k) - 1 = nI (c - 2 - k) by rw [show c - 1 - k = (c - 2 - k) + 1 by omega]; exact nI_dec, if_neg (nI_pos (by omega)), zg_true (zok_nI (show c - 2 - k < 4 by omega) (by omega)), nI_1, zg_true (zok_nI (show c - 2 - k + 1 < 4 by omega) (by omega)), nI_cl (by omega), nI_cl (by omega), rset_at, show c - 2 - k + 1 = c - 1 - k by omega, if_neg hp']
      rw [show c - 1 - (k + 1) = c - 2 - k by omega, Int32.sub_eq_add_neg]
    · intro k hk hp rc
      have hp' : A (c - 2 - k) ≤ A (c - 1 - k) := by simpa using hp
      unfold gX9_turnRow_L4
      rw [show nI (c - 1 - k) - 1 = nI (c - 2 - k) by rw [show c - 1 - k = (c - 2 - k) + 1 by omega]; exact nI_dec, if_neg (nI_pos (by omega)), zg_true (zok_nI (show c - 2 - k < 4 by omega) (by omega)), nI_1, zg_true (zok_nI (show c - 2 - k + 1 < 4 by omega) (by omega)), nI_cl (by omega), nI_cl (by omega), rset_at, show c - 2 - k + 1 = c - 1 - k by omega, if_pos hp', J31 k (by omega)]
    · intro rc
      unfold gX9_turnRow_L4
      rw [Nat.sub_self, if_pos (by decide), J31n _ (by decide)]
