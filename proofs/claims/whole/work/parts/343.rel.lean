/-! ===== at the start class and reference stand alike ===== -/
theorem pdim0 {c k : Nat} (h : pdim 0 0 0 c k = true) : (c = 0 ∧ (k = 0 ∨ k = 5 ∨ k = 10)) ∨ (c = 12 ∧ k < 5) := by
  unfold pdim at h
  by_cases h0 : c = 0
  · rw [if_pos h0] at h
    exact Or.inl ⟨h0, of_decide_eq_true h⟩
  rw [if_neg h0] at h
  by_cases h1 : c ≤ 4
  · rw [if_pos h1] at h
    exact absurd (of_decide_eq_true h) (Nat.not_lt_zero _)
  rw [if_neg h1] at h
  by_cases h2 : c ≤ 8
  · rw [if_pos h2] at h
    exact absurd (of_decide_eq_true h) (Nat.not_lt_zero _)
  rw [if_neg h2] at h
  by_cases h3 : c ≤ 11
  · rw [if_pos h3] at h
    exact absurd (of_decide_eq_true h) (Nat.not_lt_zero _)
  rw [if_neg h3] at h
  by_cases h4 : c = 12
  · rw [if_pos h4] at h
    exact Or.inr ⟨h4, of_decide_eq_true h⟩
  rw [if_neg h4] at h
  cases h
section R0
variable {F : Nat → Nat → Nat → Int32} {f : Nat → Nat → Int32}
theorem m0n_100 (hf : fKp f10 f) (k : Nat) : (M0 F f).1 100 k = f10 1 k := by
  show f 1 k = _
  rw [hf.1 1 (by decide)]
theorem m0_pl : PlC (M0 F f) 5 0 0 0 := by
  refine ⟨rfl, ⟨rfl, by decide⟩, ⟨rfl, by decide⟩, ⟨rfl, by decide⟩, fun j hj => Or.inl ?_⟩
  rcases (show j = 0 ∨ j = 1 ∨ j = 2 by omega) with rfl | rfl | rfl
  · show (-1 : Int32) < 0
    decide
  · show (-1 : Int32) < 0
    decide
  · show (-1 : Int32) < 0
    decide
theorem m0_law (j : Nat) (hj : j < 3) : lawC (M0 F f) 5 j = none := by
  unfold lawC
  rw [if_neg]
  rcases (show j = 0 ∨ j = 1 ∨ j = 2 by omega) with rfl | rfl | rfl
  · show ¬ 0 ≤ (-1 : Int32)
    decide
  · show ¬ 0 ≤ (-1 : Int32)
    decide
  · show ¬ 0 ≤ (-1 : Int32)
    decide
theorem m0n_112 (hf : fKp f10 f) (j : Nat) : (M0 F f).1 112 j = 0 ∧ (M0 F f).1 113 j = 0 := by
  constructor
  · show f 13 j = 0
    rw [hf.1 13 (by decide)]
    rfl
  · show f 14 j = 0
    rw [hf.1 14 (by decide)]
    rfl
theorem m0_lawM (hf : fKp f10 f) (j : Nat) : lawM (M0 F f) j = none := by
  unfold lawM
  rw [(m0n_112 hf j).1, (m0n_112 hf j).2, if_pos (by decide)]
theorem m0_mc (hf : fKp f10 f) : MC (M0 F f) 0 0 0 := by
  refine ⟨⟨by rw [m0n_100 hf]; rfl, by decide⟩, ⟨by rw [m0n_100 hf]; rfl, by decide⟩, ⟨by rw [m0n_100 hf]; rfl, by decide⟩, fun j hj => ⟨0, 0, (m0n_112 hf j).1, (m0n_112 hf j).2, Nat.le_refl _, by decide, fun k h1 h2 => absurd h2 (by omega), fun h => absurd h (by omega)⟩⟩
theorem m0_pM (hf : fKp f10 f) : pM 0 0 0 (M0 F f) = pC 0 0 0 (M0 F f) 5 := by
  funext c k
  unfold pM pC
  by_cases hd : pdim 0 0 0 c k = true
  · rw [if_pos hd, if_pos hd]
    rcases pdim0 hd with ⟨rfl, rfl | rfl | rfl⟩ | ⟨rfl, hk⟩
    · exact m0n_100 hf 0
    · exact m0n_100 hf 1
    · exact m0n_100 hf 2
    · rcases (show k = 0 ∨ k = 1 ∨ k = 2 ∨ k = 3 ∨ k = 4 by omega) with rfl | rfl | rfl | rfl | rfl
      · exact m0n_100 hf 3
      · exact m0n_100 hf 4
      · exact m0n_100 hf 5
      · exact m0n_100 hf 6
      · exact m0n_100 hf 7
  · rw [if_neg hd, if_neg hd]
theorem m0_vM (hf : fKp f10 f) : vM 0 0 (M0 F f) 0 = vC 0 0 (M0 F f) 55 := by
  funext c k
  unfold vM vC
  by_cases hd : vdim 0 0 c k = true
  · rw [if_pos hd, if_pos hd]
    rcases vdim_cases hd with ⟨rfl, a1, a2⟩ | ⟨a1, a2, a3⟩ | ⟨a1, a2, a3⟩
    · unfold vRd
      rw [if_neg (by decide), if_neg (fun w => absurd w.1 (by decide))]
      rcases (show k = 10 ∨ k = 11 ∨ k = 12 ∨ k = 13 ∨ k = 14 by omega) with rfl | rfl | rfl | rfl | rfl
      · exact hf.2.1
      · exact hf.2.2.2.1
      · exact hf.2.2.2.2.1
      · exact hf.2.2.2.2.2
      · exact hf.2.2.1
    · exact absurd a3 (Nat.not_lt_zero _)
    · exact absurd a3 (Nat.not_lt_zero _)
  · rw [if_neg hd, if_neg hd]
theorem Rel_M0 (hf : fKp f10 f) : Rel (M0 F f) := by
  refine ⟨(0, 0, 0, pC 0 0 0 (M0 F f) 5, fun _ => none, 0), vC 0 0 (M0 F f) 55, none, (0, fun _ => vC 0 0 (M0 F f) 55), (0, -1, fun _ _ => 0), (0, fun _ => 0), (0, -1), ⟨?_, ?_, ?_, ?_, ?_, ?_⟩, ⟨5, ?_, ?_, ?_, ?_, ?_, ?_, ?_, ?_⟩, ?_, ?_, ?_, ?_, ?_, ?_, ?_, ?_⟩
  · exact ⟨⟨Nat.zero_le _, Nat.zero_le _, Nat.zero_le _⟩, ⟨⟨0, by decide, rfl⟩, ⟨0, by decide, rfl⟩⟩, fun t ht => absurd ht (Nat.not_lt_zero _), fun t ht => absurd ht (Nat.not_lt_zero _), fun t ht => absurd ht (Nat.not_lt_zero _), fun t ht => absurd ht (Nat.not_lt_zero _)⟩
  · exact ⟨⟨fun m hm => absurd hm (Nat.not_lt_zero _), fun m hm => absurd hm (Nat.not_lt_zero _), fun m hm => absurd hm (Nat.not_lt_zero _)⟩, fun m hm => absurd hm (Nat.not_lt_zero _), fun i j hi => absurd hi (Nat.not_lt_zero _), fun m hm => absurd hm (Nat.not_lt_zero _)⟩
  · intro J h
    cases h
  · exact fun k hk => absurd hk (Nat.not_lt_zero _)
  · exact ⟨by decide, Or.inl rfl, fun k hk => absurd hk (Nat.not_lt_zero _)⟩
  · exact ⟨by decide, fun k hk => absurd hk (Nat.not_lt_zero _)⟩
  · exact ⟨rfl, rfl, 26, rfl, by decide, rfl⟩
  · exact ⟨m0_pl, rfl, fun j hj => m0_law j hj, rfl⟩
  · exact rfl
  · exact ⟨rfl, fun J h => by cases h⟩
  · exact ⟨rfl, Nat.zero_le _, fun k hk => absurd hk (Nat.not_lt_zero _)⟩
  · exact ⟨rfl, rfl, fun k hk => absurd hk (Nat.not_lt_zero _)⟩
  · exact ⟨rfl, fun k hk => absurd hk (Nat.not_lt_zero _)⟩
  · exact ⟨rfl, rfl⟩
  · exact ⟨rfl, rfl⟩
  · exact ⟨m0_mc hf, m0_pM hf, fun j hj => m0_lawM hf j, m0n_100 hf 8⟩
  · exact m0_vM hf
  · exact ⟨rfl, fun J h => by cases h⟩
  · exact ⟨rfl, Nat.zero_le _, fun k hk => absurd hk (Nat.not_lt_zero _)⟩
  · exact ⟨rfl, rfl, fun k hk => absurd hk (Nat.not_lt_zero _)⟩
  · exact ⟨rfl, fun k hk => absurd hk (Nat.not_lt_zero _)⟩
  · exact ⟨rfl, rfl⟩
end R0
