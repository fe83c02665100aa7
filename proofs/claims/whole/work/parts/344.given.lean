/-! ===== what the Statement gives of the start ===== -/
abbrev gvL : List Cond := flatC (Jvm.Cond.and given_1 narrow_1)
theorem gv_w0 : ∀ j, j < 5 → Cond.eq (.elem (.static "ColdFeet" "SETTING_WITHOUT" "[I") (.int (Int32.ofNat j))) (.int (zc0 j)) ∈ gvL := by decide +kernel
theorem gv_w1 : ∀ j, j < 5 → Cond.eq (.elem (.static "ColdFeet" "SETTING_MOST" "[I") (.int (Int32.ofNat j))) (.int (zc1 j)) ∈ gvL := by decide +kernel
theorem gv_w2 : ∀ j, j < 22 → Cond.eq (.elem (.static "ColdFeet$Token" "WORDS" "[I") (.int (Int32.ofNat j))) (.int (zc2 j)) ∈ gvL := by decide +kernel
theorem gv_x0 : ∀ j, j < 12 → gvL[110 + j]? = some (Cond.eq (.elem (.field (.string "ColdFeetModel" 197) "java/lang/String" "value" "[B") (.int (Int32.ofNat (0 + j)))) (.int (zTb.getD (0 + j) 0))) := by decide +kernel
theorem gv_x12 : ∀ j, j < 12 → gvL[122 + j]? = some (Cond.eq (.elem (.field (.string "ColdFeetModel" 197) "java/lang/String" "value" "[B") (.int (Int32.ofNat (12 + j)))) (.int (zTb.getD (12 + j) 0))) := by decide +kernel
theorem gv_x24 : ∀ j, j < 12 → gvL[134 + j]? = some (Cond.eq (.elem (.field (.string "ColdFeetModel" 197) "java/lang/String" "value" "[B") (.int (Int32.ofNat (24 + j)))) (.int (zTb.getD (24 + j) 0))) := by decide +kernel
theorem gv_x36 : ∀ j, j < 12 → gvL[146 + j]? = some (Cond.eq (.elem (.field (.string "ColdFeetModel" 197) "java/lang/String" "value" "[B") (.int (Int32.ofNat (36 + j)))) (.int (zTb.getD (36 + j) 0))) := by decide +kernel
theorem gv_x48 : ∀ j, j < 12 → gvL[158 + j]? = some (Cond.eq (.elem (.field (.string "ColdFeetModel" 197) "java/lang/String" "value" "[B") (.int (Int32.ofNat (48 + j)))) (.int (zTb.getD (48 + j) 0))) := by decide +kernel
theorem gv_x60 : ∀ j, j < 12 → gvL[170 + j]? = some (Cond.eq (.elem (.field (.string "ColdFeetModel" 197) "java/lang/String" "value" "[B") (.int (Int32.ofNat (60 + j)))) (.int (zTb.getD (60 + j) 0))) := by decide +kernel
theorem gv_x72 : ∀ j, j < 12 → gvL[182 + j]? = some (Cond.eq (.elem (.field (.string "ColdFeetModel" 197) "java/lang/String" "value" "[B") (.int (Int32.ofNat (72 + j)))) (.int (zTb.getD (72 + j) 0))) := by decide +kernel
theorem gv_x84 : ∀ j, j < 12 → gvL[194 + j]? = some (Cond.eq (.elem (.field (.string "ColdFeetModel" 197) "java/lang/String" "value" "[B") (.int (Int32.ofNat (84 + j)))) (.int (zTb.getD (84 + j) 0))) := by decide +kernel
theorem gv_x96 : ∀ j, j < 12 → gvL[206 + j]? = some (Cond.eq (.elem (.field (.string "ColdFeetModel" 197) "java/lang/String" "value" "[B") (.int (Int32.ofNat (96 + j)))) (.int (zTb.getD (96 + j) 0))) := by decide +kernel
theorem gv_w3 (j : Nat) (h : j < 108) : Cond.eq (.elem (.field (.string "ColdFeetModel" 197) "java/lang/String" "value" "[B") (.int (Int32.ofNat j))) (.int (zTb.getD j 0)) ∈ gvL := by
  by_cases c0 : j < 12
  · obtain ⟨k, rfl⟩ : ∃ k, j = 0 + k := ⟨j - 0, by omega⟩
    exact List.mem_of_getElem? (gv_x0 k (by omega))
  by_cases c12 : j < 24
  · obtain ⟨k, rfl⟩ : ∃ k, j = 12 + k := ⟨j - 12, by omega⟩
    exact List.mem_of_getElem? (gv_x12 k (by omega))
  by_cases c24 : j < 36
  · obtain ⟨k, rfl⟩ : ∃ k, j = 24 + k := ⟨j - 24, by omega⟩
    exact List.mem_of_getElem? (gv_x24 k (by omega))
  by_cases c36 : j < 48
  · obtain ⟨k, rfl⟩ : ∃ k, j = 36 + k := ⟨j - 36, by omega⟩
    exact List.mem_of_getElem? (gv_x36 k (by omega))
  by_cases c48 : j < 60
  · obtain ⟨k, rfl⟩ : ∃ k, j = 48 + k := ⟨j - 48, by omega⟩
    exact List.mem_of_getElem? (gv_x48 k (by omega))
  by_cases c60 : j < 72
  · obtain ⟨k, rfl⟩ : ∃ k, j = 60 + k := ⟨j - 60, by omega⟩
    exact List.mem_of_getElem? (gv_x60 k (by omega))
  by_cases c72 : j < 84
  · obtain ⟨k, rfl⟩ : ∃ k, j = 72 + k := ⟨j - 72, by omega⟩
    exact List.mem_of_getElem? (gv_x72 k (by omega))
  by_cases c84 : j < 96
  · obtain ⟨k, rfl⟩ : ∃ k, j = 84 + k := ⟨j - 84, by omega⟩
    exact List.mem_of_getElem? (gv_x84 k (by omega))
  by_cases c96 : j < 108
  · obtain ⟨k, rfl⟩ : ∃ k, j = 96 + k := ⟨j - 96, by omega⟩
    exact List.mem_of_getElem? (gv_x96 k (by omega))
  exact absurd h c96
def zStA (t : Nat → Nat) (A : Nat → Prop) (U : State) (H : Heap) : Prop :=
  (va_Z "ColdFeet" "SETTING_WITHOUT" "[I" (.ref (t 142)) A U H ∧ va_T .int (t 142) 5 (fun j => .int (zc0 j)) A U H) ∧
  (va_Z "ColdFeet" "SETTING_MOST" "[I" (.ref (t 143)) A U H ∧ va_T .int (t 143) 5 (fun j => .int (zc1 j)) A U H) ∧
  (va_Z "ColdFeet$Token" "WORDS" "[I" (.ref (t 144)) A U H ∧ va_T .int (t 144) 22 (fun j => .int (zc2 j)) A U H) ∧
  vk_S 1 [108] [zTb] (fun _ => t 145) (fun _ => t 146) A U H ∧ va_Z "java/lang/String" "COMPACT_STRINGS" "Z" (.int 1) A U H ∧
  (va_Z "jdk/internal/util/Preconditions" "SIOOBE_FORMATTER" "Ljava/util/function/BiFunction;" .null A U H ∨ va_Z "jdk/internal/util/Preconditions" "SIOOBE_FORMATTER" "Ljava/util/function/BiFunction;" (.ref (t 147)) A U H)
theorem zStA.go {t t' : Nat → Nat} {A B : Nat → Prop} {U : State} {H : Heap} (h : zStA t A U H) (ht : ∀ i, 142 ≤ i → i ≤ 147 → t' i = t i) (hAB : ∀ q, B q → A q) : zStA t' B U H := by
  unfold zStA
  rw [ht 142 (by decide) (by decide), ht 143 (by decide) (by decide), ht 144 (by decide) (by decide), ht 145 (by decide) (by decide), ht 146 (by decide) (by decide), ht 147 (by decide) (by decide)]
  exact ⟨⟨h.1.1.narrow hAB, h.1.2.narrow hAB⟩, ⟨h.2.1.1.narrow hAB, h.2.1.2.narrow hAB⟩, ⟨h.2.2.1.1.narrow hAB, h.2.2.1.2.narrow hAB⟩, h.2.2.2.1.narrow hAB, h.2.2.2.2.1.narrow hAB, h.2.2.2.2.2.imp (fun z => z.narrow hAB) (fun z => z.narrow hAB)⟩
theorem zStA.G {G : zG} {U : State} {H : Heap} (h : zStA G.2.2 (zA G) U H) : zStat G U H := h
theorem zStA.B {t : Nat → Nat} {z0 : Nat} {U : State} {H : Heap} (h : zStA t (bA z0) U H) : bS z0 (t 142) U H := h.1
section GV
variable {args : Array Value} {s : State}
theorem yA_out : ∀ a : Nat, a < s.heap.size → ¬ yA s a := fun a h w => Nat.not_le_of_lt h w
theorem y_arr {ty : FieldType} (h : (Cond.arrayClass ty).before args s = true) : ∃ cA : ClassId, ArrOfT s cA ty ∧ s.vm.findClass ("[" ++ ty.toString) = some cA := by
  obtain ⟨cA, kA, comp, h1, h2, h3⟩ := Cond.arrayClass_spec h
  exact ⟨cA, fun n z => ⟨fun k h => (by cases h), kA, h2, comp, h3⟩, h1⟩
theorem y_K (htz : ∀ w ∈ zWS, w.before args s = true) : ∃ B : bG, va_K B.1 vwCl (ztys (gB B)) s := by
  obtain ⟨c0, i0, k0⟩ := u_known htz uX0 (htz _ niX0)
  obtain ⟨c1, i1, k1⟩ := u_known htz uX1 (htz _ niX1)
  obtain ⟨c2, i2, k2⟩ := u_known htz uX2 (htz _ niX2)
  obtain ⟨c3, i3, k3⟩ := u_known htz uX3 (htz _ niX3)
  obtain ⟨c4, i4, k4⟩ := u_known htz uX4 (htz _ niX4)
  obtain ⟨c5, i5, k5⟩ := u_known htz uX5 (htz _ niX5)
  obtain ⟨c6, i6, k6⟩ := u_known htz uX7 (htz _ niX7)
  obtain ⟨c7, i7, k7⟩ := u_known htz uX8 (htz _ niX8)
  obtain ⟨c8, i8, k8⟩ := u_known htz uX9 (htz _ niX9)
  obtain ⟨c9, i9, k9⟩ := u_known htz uX10 (htz _ niX10)
  obtain ⟨t0, a0, f0⟩ := y_arr (ty := .int) (htz _ zb_ai)
  obtain ⟨t1, a1, f1⟩ := y_arr (ty := .boolean) (htz _ zb_az)
  obtain ⟨t2, a2, f2⟩ := y_arr (ty := .byte) (htz _ zb_ab)
  obtain ⟨t3, a3, f3⟩ := y_arr (ty := .long) (htz _ zb_al)
  refine ⟨((fun k => match k with | 0 => c0 | 1 => c1 | 2 => c2 | 3 => c3 | 4 => c4 | 5 => c5 | 6 => c6 | 7 => c7 | 8 => c8 | _ => c9, fun k => match k with | 0 => i0 | 1 => i1 | 2 => i2 | 3 => i3 | 4 => i4 | 5 => i5 | 6 => i6 | 7 => i7 | 8 => i8 | _ => i9), fun k => match k with | 0 => t0 | 1 => t1 | 2 => t2 | _ => t3), ?_, ?_⟩
  · intro k q hq
    match k, hq with
    | 0, hq => cases hq; exact k0
    | 1, hq => cases hq; exact k1
    | 2, hq => cases hq; exact k2
    | 3, hq => cases hq; exact k3
    | 4, hq => cases hq; exact k4
    | 5, hq => cases hq; exact k5
    | 6, hq => cases hq; exact k6
    | 7, hq => cases hq; exact k7
    | 8, hq => cases hq; exact k8
    | 9, hq => cases hq; exact k9
    | k + 10, hq => simp [vwCl] at hq
  · intro k q hq
    match k, hq with
    | 0, hq => cases hq; exact ⟨a0, f0⟩
    | 1, hq => cases hq; exact ⟨a1, f1⟩
    | 2, hq => cases hq; exact ⟨a2, f2⟩
    | 3, hq => cases hq; exact ⟨a3, f3⟩
    | k + 4, hq => simp [ztys] at hq
theorem y_nst (hts : ∀ w ∈ lw_tbl, w.before args s = true) : bNst s := by
  refine ⟨fun q hq => ?_, fun q hq => ?_⟩
  · simp only [zNF, List.mem_cons, List.not_mem_nil, or_false] at hq
    rcases hq with rfl | rfl | rfl
    · exact va_Nw.of rfl (hts _ (tb1 (List.mem_of_getElem? (i := 78) (by decide +kernel))))
    · exact va_Nw.of rfl (hts _ (tb2 (List.mem_of_getElem? (i := 35) (by decide +kernel))))
    · exact va_Nw.of rfl (hts _ (tb3 (List.mem_of_getElem? (i := 67) (by decide +kernel))))
  · simp only [zNMl, List.mem_cons, List.not_mem_nil, or_false] at hq
    rcases hq with rfl | rfl | rfl | rfl | rfl | rfl | rfl | rfl
    · exact va_Nw.of rfl (hts _ (tb1 (List.mem_of_getElem? (i := 39) (by decide +kernel))))
    · exact va_Nw.of rfl (hts _ (tb1 (List.mem_of_getElem? (i := 189) (by decide +kernel))))
    · exact va_Nw.of rfl (hts _ (tb2 (List.mem_of_getElem? (i := 103) (by decide +kernel))))
    · exact va_Nw.of rfl (hts _ (tb2 (List.mem_of_getElem? (i := 126) (by decide +kernel))))
    · exact va_Nw.of rfl (hts _ (tb2 (List.mem_of_getElem? (i := 156) (by decide +kernel))))
    · exact va_Nw.of rfl (hts _ (tb3 (List.mem_of_getElem? (i := 32) (by decide +kernel))))
    · exact va_Nw.of rfl (hts _ (tb3 (List.mem_of_getElem? (i := 85) (by decide +kernel))))
    · exact va_Nw.of rfl (hts _ (tb3 (List.mem_of_getElem? (i := 154) (by decide +kernel))))
theorem y_given (hts : ∀ w ∈ lw_tbl, w.before args s = true) (hg : (Jvm.Cond.and given_1 narrow_1).before args s = true) : ∃ (t : Nat → Nat) (s1 s2 : Nat), zStA t (yA s) s s.heap ∧ vk_R "ColdFeetModel" 197 zTx (t 145) s ∧ zPx (yA s) s1 s2 s s.heap := by
  have hs := flat_of_before _ hg
  obtain ⟨a0, e0, T0⟩ := va_Tof (tm := (.static "ColdFeet" "SETTING_WITHOUT" "[I")) (ty := .int) (N := 5) (f := fun j => .int (zc0 j)) (A := yA s) (by decide) (hs (.arrayOf (.static "ColdFeet" "SETTING_WITHOUT" "[I") .int) (by decide +kernel)) (va_eqt (hs (.eq (.length (.static "ColdFeet" "SETTING_WITHOUT" "[I")) (.int (Int32.ofNat 5))) (by decide +kernel))) (fun j hj => va_eqt (hs _ (gv_w0 j hj))) yA_out
  have Z0 := va_Zof (A := yA s) (hts (.laysStatic "ColdFeet" "SETTING_WITHOUT" "[I") (tb1 (List.mem_of_getElem? (i := 79) (by decide +kernel)))) (hts (.initialized "ColdFeet") (tb1 (List.mem_of_getElem? (i := 1) (by decide +kernel)))) e0 yA_out
  obtain ⟨a1, e1, T1⟩ := va_Tof (tm := (.static "ColdFeet" "SETTING_MOST" "[I")) (ty := .int) (N := 5) (f := fun j => .int (zc1 j)) (A := yA s) (by decide) (hs (.arrayOf (.static "ColdFeet" "SETTING_MOST" "[I") .int) (by decide +kernel)) (va_eqt (hs (.eq (.length (.static "ColdFeet" "SETTING_MOST" "[I")) (.int (Int32.ofNat 5))) (by decide +kernel))) (fun j hj => va_eqt (hs _ (gv_w1 j hj))) yA_out
  have Z1 := va_Zof (A := yA s) (hts (.laysStatic "ColdFeet" "SETTING_MOST" "[I") (tb3 (List.mem_of_getElem? (i := 68) (by decide +kernel)))) (hts (.initialized "ColdFeet") (tb1 (List.mem_of_getElem? (i := 1) (by decide +kernel)))) e1 yA_out
  obtain ⟨a2, e2, T2⟩ := va_Tof (tm := (.static "ColdFeet$Token" "WORDS" "[I")) (ty := .int) (N := 22) (f := fun j => .int (zc2 j)) (A := yA s) (by decide) (hs (.arrayOf (.static "ColdFeet$Token" "WORDS" "[I") .int) (by decide +kernel)) (va_eqt (hs (.eq (.length (.static "ColdFeet$Token" "WORDS" "[I")) (.int (Int32.ofNat 22))) (by decide +kernel))) (fun j hj => va_eqt (hs _ (gv_w2 j hj))) yA_out
  have Z2 := va_Zof (A := yA s) (hts (.laysStatic "ColdFeet$Token" "WORDS" "[I") (tb3 (List.mem_of_getElem? (i := 31) (by decide +kernel)))) (hts (.initialized "ColdFeet$Token") (tb1 (List.mem_of_getElem? (i := 13) (by decide +kernel)))) e2 yA_out
  obtain ⟨adK, adV, hS, hK⟩ := vk_Sof (args := args) (s := s) (N := 1) (tm := fun _ => .string "ColdFeetModel" 197) (len := [108]) (byt := [zTb]) (A := yA s) (fun i hi => by
    obtain rfl : i = 0 := by omega
    decide) (fun _ _ => hs (.exactly (.string "ColdFeetModel" 197) "java/lang/String") (by decide +kernel)) (fun _ _ => hs (.eq (.field (.string "ColdFeetModel" 197) "java/lang/String" "coder" "B") (.int 0)) (by decide +kernel)) (fun _ _ => hs (.arrayOf (.field (.string "ColdFeetModel" 197) "java/lang/String" "value" "[B") .byte) (by decide +kernel)) (fun i hi => by
    obtain rfl : i = 0 := by omega
    exact hs (.eq (.length (.field (.string "ColdFeetModel" 197) "java/lang/String" "value" "[B")) (.int (Int32.ofNat 108))) (by decide +kernel)) (fun i hi j hj => by
    obtain rfl : i = 0 := by omega
    exact hs _ (gv_w3 j hj)) (fun i j hi hj h => absurd (show i = j by omega) h) yA_out
  have ZC := va_Zof (A := yA s) (hts (.laysStatic "java/lang/String" "COMPACT_STRINGS" "Z") (tb6 (List.mem_of_getElem? (i := 130) (by decide +kernel)))) (hts (.initialized "java/lang/String") (tb1 (List.mem_of_getElem? (i := 14) (by decide +kernel)))) (va_eqi (hs (.eq (.static "java/lang/String" "COMPACT_STRINGS" "Z") (.int 1)) (by decide +kernel))) yA_out
  have ZF := va_Zqof (A := yA s) (hts (.laysStatic "jdk/internal/util/Preconditions" "SIOOBE_FORMATTER" "Ljava/util/function/BiFunction;") (tb6 (List.mem_of_getElem? (i := 146) (by decide +kernel)))) (hts (.initialized "jdk/internal/util/Preconditions") (tb1 (List.mem_of_getElem? (i := 16) (by decide +kernel)))) (hs (.isRef (.static "jdk/internal/util/Preconditions" "SIOOBE_FORMATTER" "Ljava/util/function/BiFunction;")) (by decide +kernel)) yA_out
  have ZU := vx_Zqof (A := yA s) (hts (.laysStatic "java/lang/Throwable" "UNASSIGNED_STACK" "[Ljava/lang/StackTraceElement;") (tb5 (List.mem_of_getElem? (i := 54) (by decide +kernel)))) (hts (.initialized "java/lang/Throwable") (tb1 (List.mem_of_getElem? (i := 18) (by decide +kernel)))) (hs (.isRef (.static "java/lang/Throwable" "UNASSIGNED_STACK" "[Ljava/lang/StackTraceElement;")) (by decide +kernel)) yA_out
  have ZP := vx_Zqof (A := yA s) (hts (.laysStatic "java/lang/Throwable" "SUPPRESSED_SENTINEL" "Ljava/util/List;") (tb5 (List.mem_of_getElem? (i := 56) (by decide +kernel)))) (hts (.initialized "java/lang/Throwable") (tb1 (List.mem_of_getElem? (i := 18) (by decide +kernel)))) (hs (.isRef (.static "java/lang/Throwable" "SUPPRESSED_SENTINEL" "Ljava/util/List;")) (by decide +kernel)) yA_out
  obtain ⟨s1, x1⟩ : ∃ a : Nat, (Term.string "ColdFeet" 135).eval args s none [] s = some (.ref a) := by
    obtain ⟨a, c, cA, kA, w, -⟩ := Cond.exactly_spec (args := args) (first := s) (o := none) (s := s) (idx := []) (t := .string "ColdFeet" 135) (cls := "java/lang/String") (hs (.exactly (.string "ColdFeet" 135) "java/lang/String") (by decide +kernel))
    exact ⟨a, w⟩
  obtain ⟨s2, x2⟩ : ∃ a : Nat, (Term.string "ColdFeet" 171).eval args s none [] s = some (.ref a) := by
    obtain ⟨a, c, cA, kA, w, -⟩ := Cond.exactly_spec (args := args) (first := s) (o := none) (s := s) (idx := []) (t := .string "ColdFeet" 171) (cls := "java/lang/String") (hs (.exactly (.string "ColdFeet" 171) "java/lang/String") (by decide +kernel))
    exact ⟨a, w⟩
  have zb : ∀ w ∈ zBd, va_Nw w s := by
    intro w hw
    exact va_Nw.of (zBd_ot w hw) (hts w ((by decide +kernel : ∀ w ∈ zBd, w ∈ lw_tbl) w hw))
  have hPx : zPx (yA s) s1 s2 s s.heap := ⟨zb, ZU, ZP, vk_R.of (hts (.stringRef "ColdFeet" 135 "no such man") (tb5 (List.mem_of_getElem? (i := 67) (by decide +kernel)))) x1, vk_R.of (hts (.stringRef "ColdFeet" 171 "no such what") (tb5 (List.mem_of_getElem? (i := 103) (by decide +kernel)))) x2, va_Nc.of (hs (.not (.castable eN eI)) (by decide +kernel))⟩
  have hR := vk_R.of (hts (.stringRef "ColdFeetModel" 197 zTx) (tb6 (List.mem_of_getElem? (i := 120) (by decide +kernel)))) (hK 0 (by decide))
  have hS1 : vk_S 1 [108] [zTb] (fun _ => adK 0) (fun _ => adV 0) (yA s) s s.heap := ⟨fun i hi => by
    obtain rfl : i = 0 := by omega
    exact hS.1 0 hi, fun i j hi hj _ => by omega⟩
  rcases ZF with ZF | ⟨a3, ZF⟩
  · exact ⟨fun i => ([a0, a1, a2, adK 0, adV 0, 0] : List Nat).getD (i - 142) 0, s1, s2, ⟨⟨Z0, T0⟩, ⟨Z1, T1⟩, ⟨Z2, T2⟩, hS1, ZC, Or.inl ZF⟩, hR, hPx⟩
  · exact ⟨fun i => ([a0, a1, a2, adK 0, adV 0, a3] : List Nat).getD (i - 142) 0, s1, s2, ⟨⟨Z0, T0⟩, ⟨Z1, T1⟩, ⟨Z2, T2⟩, hS1, ZC, Or.inr ZF⟩, hR, hPx⟩
end GV
