/-! ===== constructors of World and ColdFeet ===== -/
theorem bX8_init {B : bG} {z0 a0 : Nat} {w : va_W} {h p : Nat} {c0 c1 : Int32} (hw : wPl B w p c0 c1) : Cb B z0 a0 1 9 58 tX8_init [.ref h, .ref p] (w ++ [(h, .inr (7, [.null, .null, .null, .null, .null, .null, .null, .null, .null, .null, .int 0, .int 0, .int 0, .int 0, .int 0, .int 0]))]) (fun ws => ∃ (q : Nat → Nat) (f : Nat → Nat → Int32), ws = w ++ cX8 B h p q f (nW c0 c1)) := by
  refine Cb.of rfl (by decide) (Nat.le_of_ble_eq_true rfl) (fun X hX hin => ?_)
  refine zb_aload_n hX dX8_init_0 rfl ?_
  refine zb_objInit hX oX8 dX8_init_1 (by decide) (Nat.le_of_ble_eq_true rfl) ?_
  refine zb_aload_n hX dX8_init_4 rfl ?_
  refine zb_bipush hX (6) dX8_init_5 (by decide) ?_
  refine zb_newI hX (N := 6) (by decide) (by decide) (by decide) (by decide) (by decide) dX8_init_7 (fun a0 => ?_)
  refine zb_cast zb_mv ?_
  refine zb_putF0 hX hin pX8_9 dX8_init_9 (Nat.le_of_ble_eq_true rfl) rfl rfl (fs' := [.null, .ref a0, .null, .null, .null, .null, .null, .null, .null, .null, .int 0, .int 0, .int 0, .int 0, .int 0, .int 0]) rfl ?_
  refine zb_aload_n hX dX8_init_12 rfl ?_
  refine zb_at (pc' := 13) (k' := 1) (n' := 6) rfl rfl rfl ?_
  refine zb_bipush hX (6) dX8_init_13 (by decide) ?_
  refine zb_newI hX (N := 6) (by decide) (by decide) (by decide) (by decide) (by decide) dX8_init_15 (fun a1 => ?_)
  refine zb_cast zb_mv ?_
  refine zb_putF0 hX hin pX8_15 dX8_init_17 (Nat.le_of_ble_eq_true rfl) rfl rfl (fs' := [.null, .ref a0, .ref a1, .null, .null, .null, .null, .null, .null, .null, .int 0, .int 0, .int 0, .int 0, .int 0, .int 0]) rfl ?_
  refine zb_aload_n hX dX8_init_20 rfl ?_
  refine zb_bipush hX (6) dX8_init_21 (by decide) ?_
  refine zb_newI hX (N := 6) (by decide) (by decide) (by decide) (by decide) (by decide) dX8_init_23 (fun a2 => ?_)
  refine zb_cast zb_mv ?_
  refine zb_putF0 hX hin pX8_18 dX8_init_25 (Nat.le_of_ble_eq_true rfl) rfl rfl (fs' := [.null, .ref a0, .ref a1, .ref a2, .null, .null, .null, .null, .null, .null, .int 0, .int 0, .int 0, .int 0, .int 0, .int 0]) rfl ?_
  refine zb_aload_n hX dX8_init_28 rfl ?_
  refine zb_at (pc' := 29) (k' := 3) (n' := 18) rfl rfl rfl ?_
  refine zb_bipush hX (6) dX8_init_29 (by decide) ?_
  refine zb_newI hX (N := 6) (by decide) (by decide) (by decide) (by decide) (by decide) dX8_init_31 (fun a3 => ?_)
  refine zb_cast zb_mv ?_
  refine zb_putF0 hX hin pX8_21 dX8_init_33 (Nat.le_of_ble_eq_true rfl) rfl rfl (fs' := [.null, .ref a0, .ref a1, .ref a2, .ref a3, .null, .null, .null, .null, .null, .int 0, .int 0, .int 0, .int 0, .int 0, .int 0]) rfl ?_
  refine zb_aload_n hX dX8_init_36 rfl ?_
  refine zb_bipush hX (6) dX8_init_37 (by decide) ?_
  refine zb_newI hX (N := 6) (by decide) (by decide) (by decide) (by decide) (by decide) dX8_init_39 (fun a4 => ?_)
  refine zb_cast zb_mv ?_
  refine zb_putF0 hX hin pX8_24 dX8_init_41 (Nat.le_of_ble_eq_true rfl) rfl rfl (fs' := [.null, .ref a0, .ref a1, .ref a2, .ref a3, .ref a4, .null, .null, .null, .null, .int 0, .int 0, .int 0, .int 0, .int 0, .int 0]) rfl ?_
  refine zb_aload_n hX dX8_init_44 rfl ?_
  refine zb_at (pc' := 45) (k' := 5) (n' := 30) rfl rfl rfl ?_
  refine zb_bipush hX (6) dX8_init_45 (by decide) ?_
  refine zb_newI hX (N := 6) (by decide) (by decide) (by decide) (by decide) (by decide) dX8_init_47 (fun a5 => ?_)
  refine zb_cast zb_mv ?_
  refine zb_putF0 hX hin pX8_27 dX8_init_49 (Nat.le_of_ble_eq_true rfl) rfl rfl (fs' := [.null, .ref a0, .ref a1, .ref a2, .ref a3, .ref a4, .ref a5, .null, .null, .null, .int 0, .int 0, .int 0, .int 0, .int 0, .int 0]) rfl ?_
  refine zb_aload_n hX dX8_init_52 rfl ?_
  refine zb_bipush hX (6) dX8_init_53 (by decide) ?_
  refine zb_newZ hX (N := 6) (by decide) (by decide) (by decide) (by decide) (by decide) dX8_init_55 (fun a6 => ?_)
  refine zb_cast zb_mv ?_
  refine zb_putF0 hX hin pX8_30 dX8_init_57 (Nat.le_of_ble_eq_true rfl) rfl rfl (fs' := [.null, .ref a0, .ref a1, .ref a2, .ref a3, .ref a4, .ref a5, .ref a6, .null, .null, .int 0, .int 0, .int 0, .int 0, .int 0, .int 0]) rfl ?_
  refine zb_aload_n hX dX8_init_60 rfl ?_
  refine zb_at (pc' := 61) (k' := 7) (n' := 42) rfl rfl rfl ?_
  refine zb_bipush hX (8) dX8_init_61 (by decide) ?_
  refine zb_newI hX (N := 8) (by decide) (by decide) (by decide) (by decide) (by decide) dX8_init_63 (fun a7 => ?_)
  refine zb_cast zb_mv ?_
  refine zb_putF0 hX hin pX8_34 dX8_init_65 (Nat.le_of_ble_eq_true rfl) rfl rfl (fs' := [.null, .ref a0, .ref a1, .ref a2, .ref a3, .ref a4, .ref a5, .ref a6, .ref a7, .null, .int 0, .int 0, .int 0, .int 0, .int 0, .int 0]) rfl ?_
  refine zb_aload_n hX dX8_init_68 rfl ?_
  refine zb_bipush hX (8) dX8_init_69 (by decide) ?_
  refine zb_newI hX (N := 8) (by decide) (by decide) (by decide) (by decide) (by decide) dX8_init_71 (fun a8 => ?_)
  refine zb_cast zb_mv ?_
  refine zb_putF0 hX hin pX8_37 dX8_init_73 (Nat.le_of_ble_eq_true rfl) rfl rfl (fs' := [.null, .ref a0, .ref a1, .ref a2, .ref a3, .ref a4, .ref a5, .ref a6, .ref a7, .ref a8, .int 0, .int 0, .int 0, .int 0, .int 0, .int 0]) rfl ?_
  refine zb_aload_n hX dX8_init_76 rfl ?_
  refine zb_at (pc' := 77) (k' := 9) (n' := 58) rfl rfl rfl ?_
  refine zb_aload_n hX dX8_init_77 rfl ?_
  refine zb_put0 hX pX8_40 dX8_init_78 (Nat.le_of_ble_eq_true rfl) rfl rfl (fs' := [.ref p, .ref a0, .ref a1, .ref a2, .ref a3, .ref a4, .ref a5, .ref a6, .ref a7, .ref a8, .int 0, .int 0, .int 0, .int 0, .int 0, .int 0]) rfl ?_
  refine zb_at (pc' := 81) (k' := 9) (n' := 58) rfl rfl rfl ?_
  refine zb_cast (ws' := w ++ cX8 B h p (fun i => [a0, a1, a2, a3, a4, a5, a6, a7, a8].getD i 0) (fun _ _ => 0) (fun _ => 0)) rfl ?_
  refine zb_aload_n hX dX8_init_81 rfl ?_
  refine zb_aload_n hX dX8_init_82 rfl ?_
  refine zb_callV hX vX8_begin rfl lX8_44 dX8_init_83 (q0 := w.length + 0) (zb_hj rfl) rfl (bX8_begin hw) (by decide) (As := [.ref p]) rfl rfl (Nat.le_of_ble_eq_true rfl) (by decide) (by decide) (fun ws9 e9 => ?_)
  obtain ⟨f, rfl⟩ := e9
  exact zb_return hX dX8_init_86 (by decide) (by decide) ⟨_, f, rfl⟩
def cX9 (B : bG) (h : Nat) (q : Nat → Nat) (F : Nat → Nat → Nat → Int32) : va_W := [(h, .inr (8, [.ref (q 0), .int 0, .ref (q 1), .ref (q 22), .ref (q 43), .int 0, .int (-1), .ref (q 51), .ref (q 61), .ref (q 71), .int 0, .ref (q 81), .ref (q 85), .ref (q 91), .ref (q 94), .ref (q 95), .ref (q 96)])), ((q 0), .inl (B.2 2, 700, .inl (fun _ => 0))), ((q 1), .inr (3, [.int 0, .ref (q 2), .ref (q 3), .ref (q 4), .ref (q 5), .int 0, .ref (q 6), .ref (q 7), .ref (q 8), .ref (q 9), .int 0, .ref (q 10), .ref (q 11), .ref (q 12), .ref (q 13), .ref (q 14), .ref (q 15)])), ((q 2), .inl (B.2 0, 6, .inl (fun _ => 0))), ((q 3), .inl (B.2 0, 6, .inl (fun _ => 0))), ((q 4), .inl (B.2 0, 6, .inl (fun _ => 0))), ((q 5), .inl (B.2 0, 6, .inl (fun _ => 0))), ((q 6), .inl (B.2 0, 8, .inl (fun _ => 0))), ((q 7), .inl (B.2 0, 8, .inl (fun _ => 0))), ((q 8), .inl (B.2 0, 8, .inl (fun _ => 0))), ((q 9), .inl (B.2 0, 8, .inl (fun _ => 0))), ((q 10), .inl (B.2 0, 10, .inl (fun _ => 0))), ((q 11), .inl (B.2 0, 10, .inl (fun _ => 0))), ((q 12), .inl (B.2 0, 10, .inl (fun _ => 0))), ((q 13), .inl (B.2 0, 5, .inl (va_cpy zc0 (fun _ => 0) 0 0 5))), ((q 14), .inl (B.2 1, 5, .inl (fun _ => 0))), ((q 15), .inr (1, [.int 0, .int 0, .ref (q 16), .ref (q 17), .ref (q 18), .ref (q 19), .ref (q 20), .ref (q 21)])), ((q 16), .inl (B.2 0, 3, .inl (upd (upd (upd (fun _ => 0) 0 (-1)) 1 (-1)) 2 (-1)))), ((q 17), .inl (B.2 0, 3, .inl (upd (upd (upd (fun _ => 0) 0 (-1)) 1 (-1)) 2 (-1)))), ((q 18), .inl (B.2 0, 64, .inl (fun _ => 0))), ((q 19), .inl (B.2 0, 64, .inl (fun _ => 0))), ((q 20), .inl (B.2 3, 7, .inr (.inl (fun _ => 0)))), ((q 21), .inl (B.2 3, 64, .inr (.inl (fun _ => 0)))), ((q 22), .inr (3, [.int 0, .ref (q 23), .ref (q 24), .ref (q 25), .ref (q 26), .int 0, .ref (q 27), .ref (q 28), .ref (q 29), .ref (q 30), .int 0, .ref (q 31), .ref (q 32), .ref (q 33), .ref (q 34), .ref (q 35), .ref (q 36)])), ((q 23), .inl (B.2 0, 6, .inl (fun _ => 0))), ((q 24), .inl (B.2 0, 6, .inl (fun _ => 0))), ((q 25), .inl (B.2 0, 6, .inl (fun _ => 0))), ((q 26), .inl (B.2 0, 6, .inl (fun _ => 0))), ((q 27), .inl (B.2 0, 8, .inl (fun _ => 0))), ((q 28), .inl (B.2 0, 8, .inl (fun _ => 0))), ((q 29), .inl (B.2 0, 8, .inl (fun _ => 0))), ((q 30), .inl (B.2 0, 8, .inl (fun _ => 0))), ((q 31), .inl (B.2 0, 10, .inl (fun _ => 0))), ((q 32), .inl (B.2 0, 10, .inl (fun _ => 0))), ((q 33), .inl (B.2 0, 10, .inl (fun _ => 0))), ((q 34), .inl (B.2 0, 5, .inl (va_cpy zc0 (fun _ => 0) 0 0 5))), ((q 35), .inl (B.2 1, 5, .inl (fun _ => 0))), ((q 36), .inr (1, [.int 0, .int 0, .ref (q 37), .ref (q 38), .ref (q 39), .ref (q 40), .ref (q 41), .ref (q 42)])), ((q 37), .inl (B.2 0, 3, .inl (upd (upd (upd (fun _ => 0) 0 (-1)) 1 (-1)) 2 (-1)))), ((q 38), .inl (B.2 0, 3, .inl (upd (upd (upd (fun _ => 0) 0 (-1)) 1 (-1)) 2 (-1)))), ((q 39), .inl (B.2 0, 64, .inl (fun _ => 0))), ((q 40), .inl (B.2 0, 64, .inl (fun _ => 0))), ((q 41), .inl (B.2 3, 7, .inr (.inl (fun _ => 0)))), ((q 42), .inl (B.2 3, 64, .inr (.inl (fun _ => 0)))), ((q 43), .inr (5, [.int 0, .int (-1), .ref (q 44), .ref (q 22), .int 0, .int 0, .int 0, .int 0, .ref (q 49), .ref (q 50), .int 0, .int 0, .int 0, .int 0])), ((q 44), .inr (6, [.ref (q 45), .int 0, .int 0, .int 0, .ref (q 46), .ref (q 47), .ref (q 48)])), ((q 45), .inl (B.2 2, 0, .inl (fun _ => 0))), ((q 46), .inl (B.2 0, 701, .inl (fun _ => 0))), ((q 47), .inl (B.2 0, 701, .inl (fun _ => 0))), ((q 48), .inl (B.2 0, 701, .inl (fun _ => 0))), ((q 49), .inl (B.2 0, 72, .inl (fun _ => 0))), ((q 50), .inl (B.2 0, 72, .inl (fun _ => 0))), ((q 51), .inr (7, [.ref (q 1), .ref (q 52), .ref (q 53), .ref (q 54), .ref (q 55), .ref (q 56), .ref (q 57), .ref (q 58), .ref (q 59), .ref (q 60), .int (nW 99 0 0), .int (nW 99 0 1), .int (nW 99 0 2), .int (nW 99 0 3), .int (nW 99 0 4), .int (nW 99 0 5)])), ((q 52), .inl (B.2 0, 6, .inl (F 0 0))), ((q 53), .inl (B.2 0, 6, .inl (F 0 1))), ((q 54), .inl (B.2 0, 6, .inl (F 0 2))), ((q 55), .inl (B.2 0, 6, .inl (F 0 3))), ((q 56), .inl (B.2 0, 6, .inl (F 0 4))), ((q 57), .inl (B.2 0, 6, .inl (F 0 5))), ((q 58), .inl (B.2 1, 6, .inl (F 0 6))), ((q 59), .inl (B.2 0, 8, .inl (F 0 7))), ((q 60), .inl (B.2 0, 8, .inl (F 0 8))), ((q 61), .inr (7, [.ref (q 1), .ref (q 62), .ref (q 63), .ref (q 64), .ref (q 65), .ref (q 66), .ref (q 67), .ref (q 68), .ref (q 69), .ref (q 70), .int (nW 99 0 0), .int (nW 99 0 1), .int (nW 99 0 2), .int (nW 99 0 3), .int (nW 99 0 4), .int (nW 99 0 5)])), ((q 62), .inl (B.2 0, 6, .inl (F 1 0))), ((q 63), .inl (B.2 0, 6, .inl (F 1 1))), ((q 64), .inl (B.2 0, 6, .inl (F 1 2))), ((q 65), .inl (B.2 0, 6, .inl (F 1 3))), ((q 66), .inl (B.2 0, 6, .inl (F 1 4))), ((q 67), .inl (B.2 0, 6, .inl (F 1 5))), ((q 68), .inl (B.2 1, 6, .inl (F 1 6))), ((q 69), .inl (B.2 0, 8, .inl (F 1 7))), ((q 70), .inl (B.2 0, 8, .inl (F 1 8))), ((q 71), .inr (7, [.ref (q 1), .ref (q 72), .ref (q 73), .ref (q 74), .ref (q 75), .ref (q 76), .ref (q 77), .ref (q 78), .ref (q 79), .ref (q 80), .int (nW 99 0 0), .int (nW 99 0 1), .int (nW 99 0 2), .int (nW 99 0 3), .int (nW 99 0 4), .int (nW 99 0 5)])), ((q 72), .inl (B.2 0, 6, .inl (F 2 0))), ((q 73), .inl (B.2 0, 6, .inl (F 2 1))), ((q 74), .inl (B.2 0, 6, .inl (F 2 2))), ((q 75), .inl (B.2 0, 6, .inl (F 2 3))), ((q 76), .inl (B.2 0, 6, .inl (F 2 4))), ((q 77), .inl (B.2 0, 6, .inl (F 2 5))), ((q 78), .inl (B.2 1, 6, .inl (F 2 6))), ((q 79), .inl (B.2 0, 8, .inl (F 2 7))), ((q 80), .inl (B.2 0, 8, .inl (F 2 8))), ((q 81), .inr (0, [.int 0, .ref (q 82), .ref (q 83), .ref (q 84)])), ((q 82), .inl (B.2 0, 20, .inl (fun _ => 0))), ((q 83), .inl (B.2 0, 20, .inl (fun _ => 0))), ((q 84), .inl (B.2 0, 20, .inl (fun _ => 0))), ((q 85), .inr (4, [.int 0, .int (-1), .ref (q 86), .ref (q 87), .ref (q 88), .ref (q 89), .ref (q 90)])), ((q 86), .inl (B.2 0, 24, .inl (fun _ => 0))), ((q 87), .inl (B.2 0, 24, .inl (fun _ => 0))), ((q 88), .inl (B.2 1, 24, .inl (fun _ => 0))), ((q 89), .inl (B.2 0, 24, .inl (fun _ => 0))), ((q 90), .inl (B.2 1, 24, .inl (fun _ => 0))), ((q 91), .inr (2, [.ref (q 92), .ref (q 93)])), ((q 92), .inl (B.2 0, 1792, .inl (fun _ => 0))), ((q 93), .inl (B.2 0, 6, .inl (fun _ => 0))), ((q 94), .inl (B.2 0, 4, .inl (fun _ => 0))), ((q 95), .inl (B.2 0, 4, .inl (fun _ => 0))), ((q 96), .inl (B.2 0, 6, .inl (fun _ => 0)))]
theorem bX9_init {B : bG} {z0 a0 : Nat} {w : va_W} {h : Nat} : Cb B z0 a0 3 97 5847 tX9_init [.ref h] (w ++ [(h, .inr (8, [.null, .int 0, .null, .null, .null, .int 0, .int 0, .null, .null, .null, .int 0, .null, .null, .null, .null, .null, .null]))]) (fun ws => ∃ (q : Nat → Nat) (F : Nat → Nat → Nat → Int32), ws = w ++ cX9 B h q F) := by
  refine Cb.of rfl (by decide) (Nat.le_of_ble_eq_true rfl) (fun X hX hin => ?_)
  refine zb_aload_n hX dX9_init_0 rfl ?_
  refine zb_objInit hX oX9 dX9_init_1 (by decide) (Nat.le_of_ble_eq_true rfl) ?_
  refine zb_aload_n hX dX9_init_4 rfl ?_
  refine zb_sipush hX (700) dX9_init_5 (by decide) ?_
  refine zb_newB hX (N := 700) (by decide) (by decide) (by decide) (by decide) (by decide) dX9_init_8 (fun a0 => ?_)
  refine zb_cast zb_mv ?_
  refine zb_putF0 hX hin pX9_11 dX9_init_10 (Nat.le_of_ble_eq_true rfl) rfl rfl (fs' := [.ref a0, .int 0, .null, .null, .null, .int 0, .int 0, .null, .null, .null, .int 0, .null, .null, .null, .null, .null, .null]) rfl ?_
  refine zb_aload_n hX dX9_init_13 rfl ?_
  refine zb_at (pc' := 14) (k' := 1) (n' := 700) rfl rfl rfl ?_
  refine zb_new hX (C := RX3) (T := TX3) (N := 17) (ci := 3) (ty0 := tyX3) (fs := [.int 0, .null, .null, .null, .null, .int 0, .null, .null, .null, .null, .int 0, .null, .null, .null, .null, .null, .null]) rfl uX3 tyX3_ok ncX9_15 niX3 naX3 ndX3 (by decide) (by decide) dX9_init_14 (fun a1 => ?_)
  refine zb_dup hX dX9_init_17 rfl ?_
  refine zb_callI hX iX3 lX9_17 dX9_init_18 (bX3_init) (by decide) (As := []) rfl rfl (Nat.le_of_ble_eq_true rfl) (by decide) (by decide) (fun ws2 e2 => ?_)
  obtain ⟨r2, rfl⟩ := e2
  refine zb_cast zb_mv ?_
  refine zb_put0 hX pX9_18 dX9_init_21 (Nat.le_of_ble_eq_true rfl) rfl rfl (fs' := [.ref a0, .int 0, .ref a1, .null, .null, .int 0, .int 0, .null, .null, .null, .int 0, .null, .null, .null, .null, .null, .null]) rfl ?_
  refine zb_aload_n hX dX9_init_24 rfl ?_
  refine zb_new hX (C := RX3) (T := TX3) (N := 17) (ci := 3) (ty0 := tyX3) (fs := [.int 0, .null, .null, .null, .null, .int 0, .null, .null, .null, .null, .int 0, .null, .null, .null, .null, .null, .null]) rfl uX3 tyX3_ok ncX9_15 niX3 naX3 ndX3 (by decide) (by decide) dX9_init_25 (fun a2 => ?_)
  refine zb_dup hX dX9_init_28 rfl ?_
  refine zb_callI hX iX3 lX9_17 dX9_init_29 (bX3_init) (by decide) (As := []) rfl rfl (Nat.le_of_ble_eq_true rfl) (by decide) (by decide) (fun ws3 e3 => ?_)
  obtain ⟨r3, rfl⟩ := e3
  refine zb_cast zb_mv ?_
  refine zb_at (pc' := 32) (k' := 43) (n' := 1352) rfl rfl rfl ?_
  refine zb_put0 hX pX9_22 dX9_init_32 (Nat.le_of_ble_eq_true rfl) rfl rfl (fs' := [.ref a0, .int 0, .ref a1, .ref a2, .null, .int 0, .int 0, .null, .null, .null, .int 0, .null, .null, .null, .null, .null, .null]) rfl ?_
  refine zb_aload_n hX dX9_init_35 rfl ?_
  refine zb_new hX (C := RX5) (T := TX5) (N := 14) (ci := 5) (ty0 := tyX5) (fs := [.int 0, .int 0, .null, .null, .int 0, .int 0, .int 0, .int 0, .null, .null, .int 0, .int 0, .int 0, .int 0]) rfl uX5 tyX5_ok ncX9_25 niX5 naX5 ndX5 (by decide) (by decide) dX9_init_36 (fun a3 => ?_)
  refine zb_dup hX dX9_init_39 rfl ?_
  refine zb_aload_n hX dX9_init_40 rfl ?_
  refine zb_cast zb_mv ?_
  refine zb_get0 hX fX9_22 dX9_init_41 rfl ?_
  refine zb_cast zb_mv.symm ?_
  refine zb_callI hX iX5 lX9_27 dX9_init_44 (bX5_init) (by decide) (As := [.ref a2]) rfl rfl (Nat.le_of_ble_eq_true rfl) (by decide) (by decide) (fun ws4 e4 => ?_)
  obtain ⟨r4, rfl⟩ := e4
  refine zb_cast zb_mv ?_
  refine zb_putF0 hX hin pX9_30 dX9_init_47 (Nat.le_of_ble_eq_true rfl) rfl rfl (fs' := [.ref a0, .int 0, .ref a1, .ref a2, .ref a3, .int 0, .int 0, .null, .null, .null, .int 0, .null, .null, .null, .null, .null, .null]) rfl ?_
  refine zb_at (pc' := 50) (k' := 51) (n' := 3620) rfl rfl rfl ?_
  refine zb_aload_n hX dX9_init_50 rfl ?_
  refine zb_iconst hX (-1) dX9_init_51 (by decide) ?_
  refine zb_put0 hX pX9_34 dX9_init_52 (Nat.le_of_ble_eq_true rfl) rfl rfl (fs' := [.ref a0, .int 0, .ref a1, .ref a2, .ref a3, .int 0, .int (-1), .null, .null, .null, .int 0, .null, .null, .null, .null, .null, .null]) rfl ?_
  refine zb_aload_n hX dX9_init_55 rfl ?_
  refine zb_new hX (C := RX8) (T := TX8) (N := 16) (ci := 7) (ty0 := tyX8) (fs := [.null, .null, .null, .null, .null, .null, .null, .null, .null, .null, .int 0, .int 0, .int 0, .int 0, .int 0, .int 0]) rfl uX8 tyX8_ok ncX9_38 niX8 naX8 ndX8 (by decide) (by decide) dX9_init_56 (fun a4 => ?_)
  refine zb_dup hX dX9_init_59 rfl ?_
  refine zb_aload_n hX dX9_init_60 rfl ?_
  refine zb_cast zb_mv ?_
  refine zb_get0 hX fX9_18 dX9_init_61 rfl ?_
  refine zb_cast zb_mv.symm ?_
  refine zb_at (pc' := 64) (k' := 52) (n' := 3636) rfl rfl rfl ?_
  refine zb_callI hX iX8 lX9_40 dX9_init_64 (bX8_init (c0 := 99) (c1 := 0) ⟨w.length + 2, w.length + 5, w.length + 10, w.length + 14, _, _, _, _, _, _, _, zb_hj rfl, rfl, rfl, rfl, zb_hj rfl, zb_hj rfl, zb_hj rfl, rfl, rfl⟩) (by decide) (As := [.ref a1]) rfl rfl (Nat.le_of_ble_eq_true rfl) (by decide) (by decide) (fun ws5 e5 => ?_)
  obtain ⟨r5, F5, rfl⟩ := e5
  refine zb_cast zb_mv ?_
  refine zb_putF0 hX hin pX9_41 dX9_init_67 (Nat.le_of_ble_eq_true rfl) rfl rfl (fs' := [.ref a0, .int 0, .ref a1, .ref a2, .ref a3, .int 0, .int (-1), .ref a4, .null, .null, .int 0, .null, .null, .null, .null, .null, .null]) rfl ?_
  refine zb_aload_n hX dX9_init_70 rfl ?_
  refine zb_new hX (C := RX8) (T := TX8) (N := 16) (ci := 7) (ty0 := tyX8) (fs := [.null, .null, .null, .null, .null, .null, .null, .null, .null, .null, .int 0, .int 0, .int 0, .int 0, .int 0, .int 0]) rfl uX8 tyX8_ok ncX9_38 niX8 naX8 ndX8 (by decide) (by decide) dX9_init_71 (fun a5 => ?_)
  refine zb_dup hX dX9_init_74 rfl ?_
  refine zb_aload_n hX dX9_init_75 rfl ?_
  refine zb_cast zb_mv ?_
  refine zb_get0 hX fX9_18 dX9_init_76 rfl ?_
  refine zb_cast zb_mv.symm ?_
  refine zb_callI hX iX8 lX9_40 dX9_init_79 (bX8_init (c0 := 99) (c1 := 0) ⟨w.length + 2, w.length + 5, w.length + 10, w.length + 14, _, _, _, _, _, _, _, zb_hj rfl, rfl, rfl, rfl, zb_hj rfl, zb_hj rfl, zb_hj rfl, rfl, rfl⟩) (by decide) (As := [.ref a1]) rfl rfl (Nat.le_of_ble_eq_true rfl) (by decide) (by decide) (fun ws6 e6 => ?_)
  obtain ⟨r6, F6, rfl⟩ := e6
  refine zb_cast zb_mv ?_
  refine zb_at (pc' := 82) (k' := 71) (n' := 3768) rfl rfl rfl ?_
  refine zb_putF0 hX hin pX9_45 dX9_init_82 (Nat.le_of_ble_eq_true rfl) rfl rfl (fs' := [.ref a0, .int 0, .ref a1, .ref a2, .ref a3, .int 0, .int (-1), .ref a4, .ref a5, .null, .int 0, .null, .null, .null, .null, .null, .null]) rfl ?_
  refine zb_aload_n hX dX9_init_85 rfl ?_
  refine zb_new hX (C := RX8) (T := TX8) (N := 16) (ci := 7) (ty0 := tyX8) (fs := [.null, .null, .null, .null, .null, .null, .null, .null, .null, .null, .int 0, .int 0, .int 0, .int 0, .int 0, .int 0]) rfl uX8 tyX8_ok ncX9_38 niX8 naX8 ndX8 (by decide) (by decide) dX9_init_86 (fun a6 => ?_)
  refine zb_dup hX dX9_init_89 rfl ?_
  refine zb_aload_n hX dX9_init_90 rfl ?_
  refine zb_cast zb_mv ?_
  refine zb_get0 hX fX9_18 dX9_init_91 rfl ?_
  refine zb_cast zb_mv.symm ?_
  refine zb_callI hX iX8 lX9_40 dX9_init_94 (bX8_init (c0 := 99) (c1 := 0) ⟨w.length + 2, w.length + 5, w.length + 10, w.length + 14, _, _, _, _, _, _, _, zb_hj rfl, rfl, rfl, rfl, zb_hj rfl, zb_hj rfl, zb_hj rfl, rfl, rfl⟩) (by decide) (As := [.ref a1]) rfl rfl (Nat.le_of_ble_eq_true rfl) (by decide) (by decide) (fun ws7 e7 => ?_)
  obtain ⟨r7, F7, rfl⟩ := e7
  refine zb_cast zb_mv ?_
  refine zb_putF0 hX hin pX9_48 dX9_init_97 (Nat.le_of_ble_eq_true rfl) rfl rfl (fs' := [.ref a0, .int 0, .ref a1, .ref a2, .ref a3, .int 0, .int (-1), .ref a4, .ref a5, .ref a6, .int 0, .null, .null, .null, .null, .null, .null]) rfl ?_
  refine zb_at (pc' := 100) (k' := 81) (n' := 3842) rfl rfl rfl ?_
  refine zb_aload_n hX dX9_init_100 rfl ?_
  refine zb_new hX (C := RX0) (T := TX0) (N := 4) (ci := 0) (ty0 := tyX0) (fs := [.int 0, .null, .null, .null]) rfl uX0 tyX0_ok ncX9_51 niX0 naX0 ndX0 (by decide) (by decide) dX9_init_101 (fun a7 => ?_)
  refine zb_dup hX dX9_init_104 rfl ?_
  refine zb_callIN hX iX0 (host := "ColdFeet") (by decide +kernel) dX9_init_105 (bX0_init) (by decide) (As := []) rfl rfl (Nat.le_of_ble_eq_true rfl) (by decide) (by decide) (fun ws8 e8 => ?_)
  obtain ⟨r8, rfl⟩ := e8
  refine zb_cast zb_mv ?_
  refine zb_putF0 hX hin pX9_54 dX9_init_108 (Nat.le_of_ble_eq_true rfl) rfl rfl (fs' := [.ref a0, .int 0, .ref a1, .ref a2, .ref a3, .int 0, .int (-1), .ref a4, .ref a5, .ref a6, .int 0, .ref a7, .null, .null, .null, .null, .null]) rfl ?_
  refine zb_aload_n hX dX9_init_111 rfl ?_
  refine zb_new hX (C := RX4) (T := TX4) (N := 7) (ci := 4) (ty0 := tyX4) (fs := [.int 0, .int 0, .null, .null, .null, .null, .null]) rfl uX4 tyX4_ok ncX9_58 niX4 naX4 ndX4 (by decide) (by decide) dX9_init_112 (fun a8 => ?_)
  refine zb_dup hX dX9_init_115 rfl ?_
  refine zb_at (pc' := 116) (k' := 86) (n' := 3913) rfl rfl rfl ?_
  refine zb_callIN hX iX4 (host := "ColdFeet") (by decide +kernel) dX9_init_116 (bX4_init) (by decide) (As := []) rfl rfl (Nat.le_of_ble_eq_true rfl) (by decide) (by decide) (fun ws9 e9 => ?_)
  obtain ⟨r9, rfl⟩ := e9
  refine zb_cast zb_mv ?_
  refine zb_putF0 hX hin pX9_61 dX9_init_119 (Nat.le_of_ble_eq_true rfl) rfl rfl (fs' := [.ref a0, .int 0, .ref a1, .ref a2, .ref a3, .int 0, .int (-1), .ref a4, .ref a5, .ref a6, .int 0, .ref a7, .ref a8, .null, .null, .null, .null]) rfl ?_
  refine zb_aload_n hX dX9_init_122 rfl ?_
  refine zb_new hX (C := RX2) (T := TX2) (N := 2) (ci := 2) (ty0 := tyX2) (fs := [.null, .null]) rfl uX2 tyX2_ok ncX9_65 niX2 naX2 ndX2 (by decide) (by decide) dX9_init_123 (fun a9 => ?_)
  refine zb_dup hX dX9_init_126 rfl ?_
  refine zb_callIN hX iX2 (host := "ColdFeet") (by decide +kernel) dX9_init_127 (bX2_init) (by decide) (As := []) rfl rfl (Nat.le_of_ble_eq_true rfl) (by decide) (by decide) (fun ws10 e10 => ?_)
  obtain ⟨r10, rfl⟩ := e10
  refine zb_cast zb_mv ?_
  refine zb_putF0 hX hin pX9_68 dX9_init_130 (Nat.le_of_ble_eq_true rfl) rfl rfl (fs' := [.ref a0, .int 0, .ref a1, .ref a2, .ref a3, .int 0, .int (-1), .ref a4, .ref a5, .ref a6, .int 0, .ref a7, .ref a8, .ref a9, .null, .null, .null]) rfl ?_
  refine zb_aload_n hX dX9_init_133 rfl ?_
  refine zb_at (pc' := 134) (k' := 94) (n' := 5833) rfl rfl rfl ?_
  refine zb_iconst hX (4) dX9_init_134 (by decide) ?_
  refine zb_newI hX (N := 4) (by decide) (by decide) (by decide) (by decide) (by decide) dX9_init_135 (fun a10 => ?_)
  refine zb_cast zb_mv ?_
  refine zb_putF0 hX hin pX9_72 dX9_init_137 (Nat.le_of_ble_eq_true rfl) rfl rfl (fs' := [.ref a0, .int 0, .ref a1, .ref a2, .ref a3, .int 0, .int (-1), .ref a4, .ref a5, .ref a6, .int 0, .ref a7, .ref a8, .ref a9, .ref a10, .null, .null]) rfl ?_
  refine zb_aload_n hX dX9_init_140 rfl ?_
  refine zb_iconst hX (4) dX9_init_141 (by decide) ?_
  refine zb_newI hX (N := 4) (by decide) (by decide) (by decide) (by decide) (by decide) dX9_init_142 (fun a11 => ?_)
  refine zb_cast zb_mv ?_
  refine zb_putF0 hX hin pX9_76 dX9_init_144 (Nat.le_of_ble_eq_true rfl) rfl rfl (fs' := [.ref a0, .int 0, .ref a1, .ref a2, .ref a3, .int 0, .int (-1), .ref a4, .ref a5, .ref a6, .int 0, .ref a7, .ref a8, .ref a9, .ref a10, .ref a11, .null]) rfl ?_
  refine zb_aload_n hX dX9_init_147 rfl ?_
  refine zb_at (pc' := 148) (k' := 96) (n' := 5841) rfl rfl rfl ?_
  refine zb_bipush hX (6) dX9_init_148 (by decide) ?_
  refine zb_newI hX (N := 6) (by decide) (by decide) (by decide) (by decide) (by decide) dX9_init_150 (fun a12 => ?_)
  refine zb_cast zb_mv ?_
  refine zb_putF0 hX hin pX9_79 dX9_init_152 (Nat.le_of_ble_eq_true rfl) rfl rfl (fs' := [.ref a0, .int 0, .ref a1, .ref a2, .ref a3, .int 0, .int (-1), .ref a4, .ref a5, .ref a6, .int 0, .ref a7, .ref a8, .ref a9, .ref a10, .ref a11, .ref a12]) rfl ?_
  refine zb_return hX dX9_init_155 (by decide) (by decide) ?_
  exact ⟨fun i => [a0, a1, r2 0, r2 1, r2 2, r2 3, r2 4, r2 5, r2 6, r2 7, r2 8, r2 9, r2 10, r2 11, r2 12, r2 13, r2 14, r2 15, r2 16, r2 17, r2 18, r2 19, a2, r3 0, r3 1, r3 2, r3 3, r3 4, r3 5, r3 6, r3 7, r3 8, r3 9, r3 10, r3 11, r3 12, r3 13, r3 14, r3 15, r3 16, r3 17, r3 18, r3 19, a3, r4 0, r4 1, r4 2, r4 3, r4 4, r4 5, r4 6, a4, r5 0, r5 1, r5 2, r5 3, r5 4, r5 5, r5 6, r5 7, r5 8, a5, r6 0, r6 1, r6 2, r6 3, r6 4, r6 5, r6 6, r6 7, r6 8, a6, r7 0, r7 1, r7 2, r7 3, r7 4, r7 5, r7 6, r7 7, r7 8, a7, r8 0, r8 1, r8 2, a8, r9 0, r9 1, r9 2, r9 3, r9 4, a9, r10 0, r10 1, a10, a11, a12].getD i 0, fun i => [F5, F6, F7].getD i F5, rfl⟩
