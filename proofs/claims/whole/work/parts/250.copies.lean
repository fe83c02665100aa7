/-! a fire becomes another -/
def mcp (rows : Nat → Bool) (d a b k : Nat) (m : Nat → Nat → Int32) : Nat → Nat → Int32 := fun x i => if rows x = true ∧ d * a ≤ i ∧ i < d * a + k then m x (d * b + (i - d * a)) else m x i
def rw6 (x : Nat) : Bool := decide (123 ≤ x ∧ x ≤ 129)
def rw8 (x : Nat) : Bool := decide (130 ≤ x ∧ x ≤ 131)
theorem mcp_src {rows : Nat → Bool} {d a b k j x : Nat} {m : Nat → Nat → Int32} (hab : a ≠ b) (hk : k ≤ d) (hj : j < d) : mcp rows d a b k m x (d * b + j) = m x (d * b + j) := by
  unfold mcp
  rw [if_neg]
  intro ⟨_, h1, h2⟩
  rcases Nat.lt_or_gt_of_ne hab with h | h
  · have : d * a + d ≤ d * b := by rw [← Nat.mul_succ]; exact Nat.mul_le_mul_left d h
    omega
  · have : d * b + d ≤ d * a := by rw [← Nat.mul_succ]; exact Nat.mul_le_mul_left d h
    omega
theorem mcp_step {rows : Nat → Bool} {d a b k x i : Nat} {m : Nat → Nat → Int32} (h : ¬ (rows x = true ∧ i = d * a + k)) : mcp rows d a b (k + 1) m x i = mcp rows d a b k m x i := by
  unfold mcp
  by_cases h1 : rows x = true ∧ d * a ≤ i ∧ i < d * a + k
  · rw [if_pos h1, if_pos ⟨h1.1, h1.2.1, by omega⟩]
  · rw [if_neg h1, if_neg (fun z => h1 ⟨z.1, z.2.1, by
      by_cases e : i = d * a + k
      · exact absurd ⟨z.1, e⟩ h
      · omega⟩)]
theorem mcp_new {rows : Nat → Bool} {d a b k x : Nat} {m : Nat → Nat → Int32} (h : rows x = true) : mcp rows d a b (k + 1) m x (d * a + k) = m x (d * b + k) := by
  unfold mcp
  rw [if_pos ⟨h, by omega, by omega⟩, show d * a + k - d * a = k by omega]
theorem mcp_0 {rows : Nat → Bool} {d a b : Nat} {m : Nat → Nat → Int32} : mcp rows d a b 0 m = m := by
  funext x i
  unfold mcp
  rw [if_neg (by omega)]
theorem cp6 {M : zM} {m : Nat → Nat → Int32} {a b k : Nat} (hab : a ≠ b) (hk : k < 6) : (zI (zI (zI (zI (zI (zI (zI (mcp rw6 6 a b k m, M.2) 123 (6 * a + k) ((mcp rw6 6 a b k m, M.2).1 123 (6 * b + k))) 124 (6 * a + k) ((zI (mcp rw6 6 a b k m, M.2) 123 (6 * a + k) ((mcp rw6 6 a b k m, M.2).1 123 (6 * b + k))).1 124 (6 * b + k))) 125 (6 * a + k) ((zI (zI (mcp rw6 6 a b k m, M.2) 123 (6 * a + k) ((mcp rw6 6 a b k m, M.2).1 123 (6 * b + k))) 124 (6 * a + k) ((zI (mcp rw6 6 a b k m, M.2) 123 (6 * a + k) ((mcp rw6 6 a b k m, M.2).1 123 (6 * b + k))).1 124 (6 * b + k))).1 125 (6 * b + k))) 126 (6 * a + k) ((zI (zI (zI (mcp rw6 6 a b k m, M.2) 123 (6 * a + k) ((mcp rw6 6 a b k m, M.2).1 123 (6 * b + k))) 124 (6 * a + k) ((zI (mcp rw6 6 a b k m, M.2) 123 (6 * a + k) ((mcp rw6 6 a b k m, M.2).1 123 (6 * b + k))).1 124 (6 * b + k))) 125 (6 * a + k) ((zI (zI (mcp rw6 6 a b k m, M.2) 123 (6 * a + k) ((mcp rw6 6 a b k m, M.2).1 123 (6 * b + k))) 124 (6 * a + k) ((zI (mcp rw6 6 a b k m, M.2) 123 (6 * a + k) ((mcp rw6 6 a b k m, M.2).1 123 (6 * b + k))).1 124 (6 * b + k))).1 125 (6 * b + k))).1 126 (6 * b + k))) 127 (6 * a + k) ((zI (zI (zI (zI (mcp rw6 6 a b k m, M.2) 123 (6 * a + k) ((mcp rw6 6 a b k m, M.2).1 123 (6 * b + k))) 124 (6 * a + k) ((zI (mcp rw6 6 a b k m, M.2) 123 (6 * a + k) ((mcp rw6 6 a b k m, M.2).1 123 (6 * b + k))).1 124 (6 * b + k))) 125 (6 * a + k) ((zI (zI (mcp rw6 6 a b k m, M.2) 123 (6 * a + k) ((mcp rw6 6 a b k m, M.2).1 123 (6 * b + k))) 124 (6 * a + k) ((zI (mcp rw6 6 a b k m, M.2) 123 (6 * a + k) ((mcp rw6 6 a b k m, M.2).1 123 (6 * b + k))).1 124 (6 * b + k))).1 125 (6 * b + k))) 126 (6 * a + k) ((zI (zI (zI (mcp rw6 6 a b k m, M.2) 123 (6 * a + k) ((mcp rw6 6 a b k m, M.2).1 123 (6 * b + k))) 124 (6 * a + k) ((zI (mcp rw6 6 a b k m, M.2) 123 (6 * a + k) ((mcp rw6 6 a b k m, M.2).1 123 (6 * b + k))).1 124 (6 * b + k))) 125 (6 * a + k) ((zI (zI (mcp rw6 6 a b k m, M.2) 123 (6 * a + k) ((mcp rw6 6 a b k m, M.2).1 123 (6 * b + k))) 124 (6 * a + k) ((zI (mcp rw6 6 a b k m, M.2) 123 (6 * a + k) ((mcp rw6 6 a b k m, M.2).1 123 (6 * b + k))).1 124 (6 * b + k))).1 125 (6 * b + k))).1 126 (6 * b + k))).1 127 (6 * b + k))) 128 (6 * a + k) ((zI (zI (zI (zI (zI (mcp rw6 6 a b k m, M.2) 123 (6 * a + k) ((mcp rw6 6 a b k m, M.2).1 123 (6 * b + k))) 124 (6 * a + k) ((zI (mcp rw6 6 a b k m, M.2) 123 (6 * a + k) ((mcp rw6 6 a b k m, M.2).1 123 (6 * b + k))).1 124 (6 * b + k))) 125 (6 * a + k) ((zI (zI (mcp rw6 6 a b k m, M.2) 123 (6 * a + k) ((mcp rw6 6 a b k m, M.2).1 123 (6 * b + k))) 124 (6 * a + k) ((zI (mcp rw6 6 a b k m, M.2) 123 (6 * a + k) ((mcp rw6 6 a b k m, M.2).1 123 (6 * b + k))).1 124 (6 * b + k))).1 125 (6 * b + k))) 126 (6 * a + k) ((zI (zI (zI (mcp rw6 6 a b k m, M.2) 123 (6 * a + k) ((mcp rw6 6 a b k m, M.2).1 123 (6 * b + k))) 124 (6 * a + k) ((zI (mcp rw6 6 a b k m, M.2) 123 (6 * a + k) ((mcp rw6 6 a b k m, M.2).1 123 (6 * b + k))).1 124 (6 * b + k))) 125 (6 * a + k) ((zI (zI (mcp rw6 6 a b k m, M.2) 123 (6 * a + k) ((mcp rw6 6 a b k m, M.2).1 123 (6 * b + k))) 124 (6 * a + k) ((zI (mcp rw6 6 a b k m, M.2) 123 (6 * a + k) ((mcp rw6 6 a b k m, M.2).1 123 (6 * b + k))).1 124 (6 * b + k))).1 125 (6 * b + k))).1 126 (6 * b + k))) 127 (6 * a + k) ((zI (zI (zI (zI (mcp rw6 6 a b k m, M.2) 123 (6 * a + k) ((mcp rw6 6 a b k m, M.2).1 123 (6 * b + k))) 124 (6 * a + k) ((zI (mcp rw6 6 a b k m, M.2) 123 (6 * a + k) ((mcp rw6 6 a b k m, M.2).1 123 (6 * b + k))).1 124 (6 * b + k))) 125 (6 * a + k) ((zI (zI (mcp rw6 6 a b k m, M.2) 123 (6 * a + k) ((mcp rw6 6 a b k m, M.2).1 123 (6 * b + k))) 124 (6 * a + k) ((zI (mcp rw6 6 a b k m, M.2) 123 (6 * a + k) ((mcp rw6 6 a b k m, M.2).1 123 (6 * b + k))).1 124 (6 * b + k))).1 125 (6 * b + k))) 126 (6 * a + k) ((zI (zI (zI (mcp rw6 6 a b k m, M.2) 123 (6 * a + k) ((mcp rw6 6 a b k m, M.2).1 123 (6 * b + k))) 124 (6 * a + k) ((zI (mcp rw6 6 a b k m, M.2) 123 (6 * a + k) ((mcp rw6 6 a b k m, M.2).1 123 (6 * b + k))).1 124 (6 * b + k))) 125 (6 * a + k) ((zI (zI (mcp rw6 6 a b k m, M.2) 123 (6 * a + k) ((mcp rw6 6 a b k m, M.2).1 123 (6 * b + k))) 124 (6 * a + k) ((zI (mcp rw6 6 a b k m, M.2) 123 (6 * a + k) ((mcp rw6 6 a b k m, M.2).1 123 (6 * b + k))).1 124 (6 * b + k))).1 125 (6 * b + k))).1 126 (6 * b + k))).1 127 (6 * b + k))).1 128 (6 * b + k))) 129 (6 * a + k) ((zI (zI (zI (zI (zI (zI (mcp rw6 6 a b k m, M.2) 123 (6 * a + k) ((mcp rw6 6 a b k m, M.2).1 123 (6 * b + k))) 124 (6 * a + k) ((zI (mcp rw6 6 a b k m, M.2) 123 (6 * a + k) ((mcp rw6 6 a b k m, M.2).1 123 (6 * b + k))).1 124 (6 * b + k))) 125 (6 * a + k) ((zI (zI (mcp rw6 6 a b k m, M.2) 123 (6 * a + k) ((mcp rw6 6 a b k m, M.2).1 123 (6 * b + k))) 124 (6 * a + k) ((zI (mcp rw6 6 a b k m, M.2) 123 (6 * a + k) ((mcp rw6 6 a b k m, M.2).1 123 (6 * b + k))).1 124 (6 * b + k))).1 125 (6 * b + k))) 126 (6 * a + k) ((zI (zI (zI (mcp rw6 6 a b k m, M.2) 123 (6 * a + k) ((mcp rw6 6 a b k m, M.2).1 123 (6 * b + k))) 124 (6 * a + k) ((zI (mcp rw6 6 a b k m, M.2) 123 (6 * a + k) ((mcp rw6 6 a b k m, M.2).1 123 (6 * b + k))).1 124 (6 * b + k))) 125 (6 * a + k) ((zI (zI (mcp rw6 6 a b k m, M.2) 123 (6 * a + k) ((mcp rw6 6 a b k m, M.2).1 123 (6 * b + k))) 124 (6 * a + k) ((zI (mcp rw6 6 a b k m, M.2) 123 (6 * a + k) ((mcp rw6 6 a b k m, M.2).1 123 (6 * b + k))).1 124 (6 * b + k))).1 125 (6 * b + k))).1 126 (6 * b + k))) 127 (6 * a + k) ((zI (zI (zI (zI (mcp rw6 6 a b k m, M.2) 123 (6 * a + k) ((mcp rw6 6 a b k m, M.2).1 123 (6 * b + k))) 124 (6 * a + k) ((zI (mcp rw6 6 a b k m, M.2) 123 (6 * a + k) ((mcp rw6 6 a b k m, M.2).1 123 (6 * b + k))).1 124 (6 * b + k))) 125 (6 * a + k) ((zI (zI (mcp rw6 6 a b k m, M.2) 123 (6 * a + k) ((mcp rw6 6 a b k m, M.2).1 123 (6 * b + k))) 124 (6 * a + k) ((zI (mcp rw6 6 a b k m, M.2) 123 (6 * a + k) ((mcp rw6 6 a b k m, M.2).1 123 (6 * b + k))).1 124 (6 * b + k))).1 125 (6 * b + k))) 126 (6 * a + k) ((zI (zI (zI (mcp rw6 6 a b k m, M.2) 123 (6 * a + k) ((mcp rw6 6 a b k m, M.2).1 123 (6 * b + k))) 124 (6 * a + k) ((zI (mcp rw6 6 a b k m, M.2) 123 (6 * a + k) ((mcp rw6 6 a b k m, M.2).1 123 (6 * b + k))).1 124 (6 * b + k))) 125 (6 * a + k) ((zI (zI (mcp rw6 6 a b k m, M.2) 123 (6 * a + k) ((mcp rw6 6 a b k m, M.2).1 123 (6 * b + k))) 124 (6 * a + k) ((zI (mcp rw6 6 a b k m, M.2) 123 (6 * a + k) ((mcp rw6 6 a b k m, M.2).1 123 (6 * b + k))).1 124 (6 * b + k))).1 125 (6 * b + k))).1 126 (6 * b + k))).1 127 (6 * b + k))) 128 (6 * a + k) ((zI (zI (zI (zI (zI (mcp rw6 6 a b k m, M.2) 123 (6 * a + k) ((mcp rw6 6 a b k m, M.2).1 123 (6 * b + k))) 124 (6 * a + k) ((zI (mcp rw6 6 a b k m, M.2) 123 (6 * a + k) ((mcp rw6 6 a b k m, M.2).1 123 (6 * b + k))).1 124 (6 * b + k))) 125 (6 * a + k) ((zI (zI (mcp rw6 6 a b k m, M.2) 123 (6 * a + k) ((mcp rw6 6 a b k m, M.2).1 123 (6 * b + k))) 124 (6 * a + k) ((zI (mcp rw6 6 a b k m, M.2) 123 (6 * a + k) ((mcp rw6 6 a b k m, M.2).1 123 (6 * b + k))).1 124 (6 * b + k))).1 125 (6 * b + k))) 126 (6 * a + k) ((zI (zI (zI (mcp rw6 6 a b k m, M.2) 123 (6 * a + k) ((mcp rw6 6 a b k m, M.2).1 123 (6 * b + k))) 124 (6 * a + k) ((zI (mcp rw6 6 a b k m, M.2) 123 (6 * a + k) ((mcp rw6 6 a b k m, M.2).1 123 (6 * b + k))).1 124 (6 * b + k))) 125 (6 * a + k) ((zI (zI (mcp rw6 6 a b k m, M.2) 123 (6 * a + k) ((mcp rw6 6 a b k m, M.2).1 123 (6 * b + k))) 124 (6 * a + k) ((zI (mcp rw6 6 a b k m, M.2) 123 (6 * a + k) ((mcp rw6 6 a b k m, M.2).1 123 (6 * b + k))).1 124 (6 * b + k))).1 125 (6 * b + k))).1 126 (6 * b + k))) 127 (6 * a + k) ((zI (zI (zI (zI (mcp rw6 6 a b k m, M.2) 123 (6 * a + k) ((mcp rw6 6 a b k m, M.2).1 123 (6 * b + k))) 124 (6 * a + k) ((zI (mcp rw6 6 a b k m, M.2) 123 (6 * a + k) ((mcp rw6 6 a b k m, M.2).1 123 (6 * b + k))).1 124 (6 * b + k))) 125 (6 * a + k) ((zI (zI (mcp rw6 6 a b k m, M.2) 123 (6 * a + k) ((mcp rw6 6 a b k m, M.2).1 123 (6 * b + k))) 124 (6 * a + k) ((zI (mcp rw6 6 a b k m, M.2) 123 (6 * a + k) ((mcp rw6 6 a b k m, M.2).1 123 (6 * b + k))).1 124 (6 * b + k))).1 125 (6 * b + k))) 126 (6 * a + k) ((zI (zI (zI (mcp rw6 6 a b k m, M.2) 123 (6 * a + k) ((mcp rw6 6 a b k m, M.2).1 123 (6 * b + k))) 124 (6 * a + k) ((zI (mcp rw6 6 a b k m, M.2) 123 (6 * a + k) ((mcp rw6 6 a b k m, M.2).1 123 (6 * b + k))).1 124 (6 * b + k))) 125 (6 * a + k) ((zI (zI (mcp rw6 6 a b k m, M.2) 123 (6 * a + k) ((mcp rw6 6 a b k m, M.2).1 123 (6 * b + k))) 124 (6 * a + k) ((zI (mcp rw6 6 a b k m, M.2) 123 (6 * a + k) ((mcp rw6 6 a b k m, M.2).1 123 (6 * b + k))).1 124 (6 * b + k))).1 125 (6 * b + k))).1 126 (6 * b + k))).1 127 (6 * b + k))).1 128 (6 * b + k))).1 129 (6 * b + k))) = (mcp rw6 6 a b (k + 1) m, M.2) := by
  refine Prod.ext (funext fun x => funext fun i => ?_) rfl
  by_cases hx : rw6 x = true ∧ i = 6 * a + k
  · obtain ⟨hx, rfl⟩ := hx
    dsimp only
    rw [mcp_new hx]
    have hx' : 123 ≤ x ∧ x ≤ 129 := by simpa [rw6] using hx
    rcases (show x = 123 ∨ x = 124 ∨ x = 125 ∨ x = 126 ∨ x = 127 ∨ x = 128 ∨ x = 129 by omega) with rfl | rfl | rfl | rfl | rfl | rfl | rfl
    · rw [zI_of (by omega), zI_of (by omega), zI_of (by omega), zI_of (by omega), zI_of (by omega), zI_of (by omega), zI_at]
      exact mcp_src hab (by omega) hk
    · rw [zI_of (by omega), zI_of (by omega), zI_of (by omega), zI_of (by omega), zI_of (by omega), zI_at, zI_of (by omega)]
      exact mcp_src hab (by omega) hk
    · rw [zI_of (by omega), zI_of (by omega), zI_of (by omega), zI_of (by omega), zI_at, zI_of (by omega), zI_of (by omega)]
      exact mcp_src hab (by omega) hk
    · rw [zI_of (by omega), zI_of (by omega), zI_of (by omega), zI_at, zI_of (by omega), zI_of (by omega), zI_of (by omega)]
      exact mcp_src hab (by omega) hk
    · rw [zI_of (by omega), zI_of (by omega), zI_at, zI_of (by omega), zI_of (by omega), zI_of (by omega), zI_of (by omega)]
      exact mcp_src hab (by omega) hk
    · rw [zI_of (by omega), zI_at, zI_of (by omega), zI_of (by omega), zI_of (by omega), zI_of (by omega), zI_of (by omega)]
      exact mcp_src hab (by omega) hk
    · rw [zI_at, zI_of (by omega), zI_of (by omega), zI_of (by omega), zI_of (by omega), zI_of (by omega), zI_of (by omega)]
      exact mcp_src hab (by omega) hk
  · have hx' : ¬ (123 ≤ x ∧ x ≤ 129 ∧ i = 6 * a + k) := fun z => hx ⟨by simp [rw6]; omega, z.2.2⟩
    dsimp only
    rw [zI_of (by omega), zI_of (by omega), zI_of (by omega), zI_of (by omega), zI_of (by omega), zI_of (by omega), zI_of (by omega), mcp_step hx]
theorem cp8 {M : zM} {m : Nat → Nat → Int32} {a b k : Nat} (hab : a ≠ b) (hk : k < 8) : (zI (zI (mcp rw8 8 a b k m, M.2) 130 (8 * a + k) ((mcp rw8 8 a b k m, M.2).1 130 (8 * b + k))) 131 (8 * a + k) ((zI (mcp rw8 8 a b k m, M.2) 130 (8 * a + k) ((mcp rw8 8 a b k m, M.2).1 130 (8 * b + k))).1 131 (8 * b + k))) = (mcp rw8 8 a b (k + 1) m, M.2) := by
  refine Prod.ext (funext fun x => funext fun i => ?_) rfl
  by_cases hx : rw8 x = true ∧ i = 8 * a + k
  · obtain ⟨hx, rfl⟩ := hx
    dsimp only
    rw [mcp_new hx]
    have hx' : 130 ≤ x ∧ x ≤ 131 := by simpa [rw8] using hx
    rcases (show x = 130 ∨ x = 131 by omega) with rfl | rfl
    · rw [zI_of (by omega), zI_at]
      exact mcp_src hab (by omega) hk
    · rw [zI_at, zI_of (by omega)]
      exact mcp_src hab (by omega) hk
  · have hx' : ¬ (130 ≤ x ∧ x ≤ 131 ∧ i = 8 * a + k) := fun z => hx ⟨by simp [rw8]; omega, z.2.2⟩
    dsimp only
    rw [zI_of (by omega), zI_of (by omega), mcp_step hx]
/-- what copies may change -/
def CF (a x i : Nat) : Prop := (118 ≤ x ∧ x ≤ 122 ∧ i = a) ∨ (123 ≤ x ∧ x ≤ 129 ∧ 6 * a ≤ i ∧ i < 6 * a + 6) ∨ (130 ≤ x ∧ x ≤ 131 ∧ 8 * a ≤ i ∧ i < 8 * a + 8)
theorem r_copy6 {M : zM} {m : Nat → Nat → Int32} {a b : Nat} (ha : a < 23) (hb : b < 23) (hab : a ≠ b) : zfix zFu (gX10_copies_L62 (nI a) (nI b)) (0, (m, M.2)) = some (mcp rw8 8 a b 8 (mcp rw6 6 a b 6 m), M.2) := by
  refine zfix_run (fun k => (nI k, (mcp rw6 6 a b k m, M.2))) 6 (by rw [mcp_0, nI_0]) (by unfold zFu; omega) ?_ ?_
  · intro k hk rc
    unfold gX10_copies_L62
    dsimp only
    rw [nI_lit6, if_neg (nI_ge hk (by omega)), ← nI_lit6, nI_6, nI_6, zg_true (zok_nI (show 6 * b + k < 138 by omega) (by omega)), zg_true (zok_nI (show 6 * a + k < 138 by omega) (by omega)), zlet_eq, zg_true (zok_nI (show 6 * b + k < 138 by omega) (by omega)), zg_true (zok_nI (show 6 * a + k < 138 by omega) (by omega)), zlet_eq, zg_true (zok_nI (show 6 * b + k < 138 by omega) (by omega)), zg_true (zok_nI (show 6 * a + k < 138 by omega) (by omega)), zlet_eq, zg_true (zok_nI (show 6 * b + k < 138 by omega) (by omega)), zg_true (zok_nI (show 6 * a + k < 138 by omega) (by omega)), zlet_eq, zg_true (zok_nI (show 6 * b + k < 138 by omega) (by omega)), zg_true (zok_nI (show 6 * a + k < 138 by omega) (by omega)), zlet_eq, zg_true (zok_nI (show 6 * b + k < 138 by omega) (by omega)), zg_true (zok_nI (show 6 * a + k < 138 by omega) (by omega)), zlet_eq, zg_true (zok_nI (show 6 * b + k < 138 by omega) (by omega)), zg_true (zok_nI (show 6 * a + k < 138 by omega) (by omega)), zlet_eq, nI_cl (show 6 * a + k < 2 ^ 31 by omega), nI_cl (show 6 * b + k < 2 ^ 31 by omega), cp6 hab hk, nI_1]
  · intro rc
    unfold gX10_copies_L62
    dsimp only
    rw [nI_lit6, if_pos (nI_le (Nat.le_refl _) (by omega))]
    generalize mcp rw6 6 a b 6 m = m
    refine zfix_run (fun k => (nI k, (mcp rw8 8 a b k m, M.2))) 8 (by rw [mcp_0, nI_0]) (by unfold zFu; omega) ?_ ?_
    · intro k hk rc
      unfold gX10_copies_L190
      dsimp only
      rw [nI_lit8, if_neg (nI_ge hk (by omega)), ← nI_lit8, nI_8, nI_8, zg_true (zok_nI (show 8 * b + k < 184 by omega) (by omega)), zg_true (zok_nI (show 8 * a + k < 184 by omega) (by omega)), zlet_eq, zg_true (zok_nI (show 8 * b + k < 184 by omega) (by omega)), zg_true (zok_nI (show 8 * a + k < 184 by omega) (by omega)), zlet_eq, nI_cl (show 8 * a + k < 2 ^ 31 by omega), nI_cl (show 8 * b + k < 2 ^ 31 by omega), cp8 hab hk, nI_1]
    · intro rc
      unfold gX10_copies_L190
      dsimp only
      rw [nI_lit8, if_pos (nI_le (Nat.le_refl _) (by omega))]
theorem mcp_of {rows : Nat → Bool} {d a b k x i : Nat} {m : Nat → Nat → Int32} (h : ¬ (rows x = true ∧ d * a ≤ i ∧ i < d * a + k)) : mcp rows d a b k m x i = m x i := if_neg h
theorem r_copies {M : zM} {a b : Nat} (ha : a < 23) (hb : b < 23) (hab : a ≠ b) :
    ∃ M', gX10_copies (nI a) (nI b) M = some M' ∧ M'.2 = M.2 ∧ (∀ x i, ¬ CF a x i → M'.1 x i = M.1 x i) ∧ (∀ x, 118 ≤ x → x ≤ 122 → M'.1 x a = M.1 x b) ∧ (∀ x k, 123 ≤ x → x ≤ 129 → k < 6 → M'.1 x (6 * a + k) = M.1 x (6 * b + k)) ∧ ∀ x k, 130 ≤ x → x ≤ 131 → k < 8 → M'.1 x (8 * a + k) = M.1 x (8 * b + k) := by
  unfold gX10_copies
  rw [zg_true (zok_nI hb (by omega)), zg_true (zok_nI ha (by omega)), zlet_eq, zg_true (zok_nI hb (by omega)), zg_true (zok_nI ha (by omega)), zlet_eq, zg_true (zok_nI hb (by omega)), zg_true (zok_nI ha (by omega)), zlet_eq, zg_true (zok_nI hb (by omega)), zg_true (zok_nI ha (by omega)), zlet_eq, zg_true (zok_nI hb (by omega)), zg_true (zok_nI ha (by omega)), zlet_eq, nI_cl (show a < 2 ^ 31 by omega), nI_cl (show b < 2 ^ 31 by omega)]
  have hM5 : ∃ M5 : zM, M5 = (zI (zI (zI (zI (zI M 118 a (M.1 118 b)) 119 a ((zI M 118 a (M.1 118 b)).1 119 b)) 120 a ((zI (zI M 118 a (M.1 118 b)) 119 a ((zI M 118 a (M.1 118 b)).1 119 b)).1 120 b)) 121 a ((zI (zI (zI M 118 a (M.1 118 b)) 119 a ((zI M 118 a (M.1 118 b)).1 119 b)) 120 a ((zI (zI M 118 a (M.1 118 b)) 119 a ((zI M 118 a (M.1 118 b)).1 119 b)).1 120 b)).1 121 b)) 122 a ((zI (zI (zI (zI M 118 a (M.1 118 b)) 119 a ((zI M 118 a (M.1 118 b)).1 119 b)) 120 a ((zI (zI M 118 a (M.1 118 b)) 119 a ((zI M 118 a (M.1 118 b)).1 119 b)).1 120 b)) 121 a ((zI (zI (zI M 118 a (M.1 118 b)) 119 a ((zI M 118 a (M.1 118 b)).1 119 b)) 120 a ((zI (zI M 118 a (M.1 118 b)) 119 a ((zI M 118 a (M.1 118 b)).1 119 b)).1 120 b)).1 121 b)).1 122 b)) := ⟨_, rfl⟩
  obtain ⟨M5, h5⟩ := hM5
  rw [← h5]
  have o5 : ∀ x i, ¬ (118 ≤ x ∧ x ≤ 122 ∧ i = a) → M5.1 x i = M.1 x i := by
    intro x i h
    rw [h5, zI_of (by omega), zI_of (by omega), zI_of (by omega), zI_of (by omega), zI_of (by omega)]
  have c5 : ∀ x, 118 ≤ x → x ≤ 122 → M5.1 x a = M.1 x b := by
    intro x q1 q2
    rw [h5]
    rcases (show x = 118 ∨ x = 119 ∨ x = 120 ∨ x = 121 ∨ x = 122 by omega) with rfl | rfl | rfl | rfl | rfl
    · rw [zI_of (by omega), zI_of (by omega), zI_of (by omega), zI_of (by omega), zI_at]
    · rw [zI_of (by omega), zI_of (by omega), zI_of (by omega), zI_at, zI_of (by omega)]
    · rw [zI_of (by omega), zI_of (by omega), zI_at, zI_of (by omega), zI_of (by omega)]
    · rw [zI_of (by omega), zI_at, zI_of (by omega), zI_of (by omega), zI_of (by omega)]
    · rw [zI_at, zI_of (by omega), zI_of (by omega), zI_of (by omega), zI_of (by omega)]
  have l5 : M5.2 = M.2 := by rw [h5]; rfl
  clear h5
  have e5 : M5 = (M5.1, M.2) := by rw [← l5]
  have hz := r_copy6 (M := M) (m := M5.1) ha hb hab
  rw [← e5] at hz
  refine ⟨_, hz, rfl, fun x i h => ?_, fun x q1 q2 => ?_, fun x k q1 q2 hk => ?_, fun x k q1 q2 hk => ?_⟩
  · dsimp only
    unfold CF at h
    rw [mcp_of (by simp [rw8]; omega), mcp_of (by simp [rw6]; omega), o5 x i (by omega)]
  · dsimp only
    rw [mcp_of (by simp [rw8]; omega), mcp_of (by simp [rw6]; omega), c5 x q1 q2]
  · dsimp only
    have hr : rw6 x = true := by simp [rw6]; omega
    rw [mcp_of (by simp [rw8]; omega)]
    unfold mcp
    rw [if_pos ⟨hr, by omega, by omega⟩, show 6 * a + k - 6 * a = k by omega, o5 _ _ (by omega)]
  · dsimp only
    have hr : rw8 x = true := by simp [rw8]; omega
    have h6 : ∀ i, mcp rw6 6 a b 6 M5.1 x i = M5.1 x i := fun i => mcp_of (by simp [rw6]; omega)
    unfold mcp at h6 ⊢
    rw [if_pos ⟨hr, by omega, by omega⟩, show 8 * a + k - 8 * a = k by omega, h6, o5 _ _ (by omega)]
