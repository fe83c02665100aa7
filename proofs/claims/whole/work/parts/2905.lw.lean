/-! letters in one number -/
def ltD (b : Nat → Nat) (a : Nat) (i : Nat) : Nat := b (a + i) - 96
def lw (b : Nat → Nat) (a j : Nat) : Nat := cd6 (dE (min j 6) (ltD b a))
theorem lw_s {b : Nat → Nat} {a j : Nat} (hj : j < 6) (h0 : ltD b a j ≤ 26) : lw b a j ||| (ltD b a j * 2 ^ (25 - 5 * j)) = lw b a (j + 1) := by
  unfold lw
  rw [Nat.min_eq_left (by omega), Nat.min_eq_left (by omega)]
  have key : ∃ x, cd6 (dE j (ltD b a)) = x * 2 ^ (30 - 5 * j) := by
    unfold cd6 dE
    rcases (show j = 0 ∨ j = 1 ∨ j = 2 ∨ j = 3 ∨ j = 4 ∨ j = 5 by omega) with rfl | rfl | rfl | rfl | rfl | rfl
    · exact ⟨0, by simp⟩
    · exact ⟨ltD b a 0, by simp⟩
    · exact ⟨ltD b a 0 * 32 + ltD b a 1, by simp; omega⟩
    · exact ⟨ltD b a 0 * 1024 + ltD b a 1 * 32 + ltD b a 2, by simp; omega⟩
    · exact ⟨ltD b a 0 * 32768 + ltD b a 1 * 1024 + ltD b a 2 * 32 + ltD b a 3, by simp; omega⟩
    · exact ⟨ltD b a 0 * 1048576 + ltD b a 1 * 32768 + ltD b a 2 * 1024 + ltD b a 3 * 32 + ltD b a 4, by simp; omega⟩
  obtain ⟨x, ex⟩ := key
  have hlt : ltD b a j * 2 ^ (25 - 5 * j) < 2 ^ (30 - 5 * j) := by
    rw [show 30 - 5 * j = 5 + (25 - 5 * j) by omega, Nat.pow_add]
    exact Nat.mul_lt_mul_of_lt_of_le (by omega) (Nat.le_refl _) (Nat.pow_pos (by omega))
  rw [ex, or_add _ _ _ hlt, ← ex]
  unfold cd6 dE
  rcases (show j = 0 ∨ j = 1 ∨ j = 2 ∨ j = 3 ∨ j = 4 ∨ j = 5 by omega) with rfl | rfl | rfl | rfl | rfl | rfl <;> simp
