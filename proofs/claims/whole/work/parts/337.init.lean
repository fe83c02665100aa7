/-! ===== constructors: words ===== -/
theorem iX0 : zIok tX0_init := ⟨zin (tb2 (List.mem_of_getElem? (i := 104) (by decide +kernel))) rfl, zin (tb1 (List.mem_of_getElem? (i := 8) (by decide +kernel))) rfl, zin (tb2 (List.mem_of_getElem? (i := 105) (by decide +kernel))) rfl, ⟨by decide +kernel, by decide +kernel, by decide +kernel⟩, by decide, rfl, rfl⟩
theorem oX0 : Cond.methodLink RX0 3 Lib.objectInit ∈ zWS := zin (tb2 (List.mem_of_getElem? (i := 106) (by decide +kernel))) rfl
theorem niX0 : Cond.instantiable RX0 4 ∈ zWS := zin (tb2 (List.mem_of_getElem? (i := 102) (by decide +kernel))) rfl
theorem naX0 : Cond.initialized RX0 ∈ zWS := zin (tb1 (List.mem_of_getElem? (i := 8) (by decide +kernel))) rfl
theorem ndX0 : ∀ j, j < 4 → defaultValue (tyX0 j) = vp_V [.int 0, .null, .null, .null] j := by decide +kernel
theorem iX1 : zIok tX1_init := ⟨zin (tb1 (List.mem_of_getElem? (i := 40) (by decide +kernel))) rfl, zin (tb1 (List.mem_of_getElem? (i := 3) (by decide +kernel))) rfl, zin (tb1 (List.mem_of_getElem? (i := 41) (by decide +kernel))) rfl, ⟨by decide +kernel, by decide +kernel, by decide +kernel⟩, by decide, rfl, rfl⟩
theorem oX1 : Cond.methodLink RX1 3 Lib.objectInit ∈ zWS := zin (tb1 (List.mem_of_getElem? (i := 42) (by decide +kernel))) rfl
theorem niX1 : Cond.instantiable RX1 8 ∈ zWS := zin (tb1 (List.mem_of_getElem? (i := 38) (by decide +kernel))) rfl
theorem naX1 : Cond.initialized RX1 ∈ zWS := zin (tb1 (List.mem_of_getElem? (i := 3) (by decide +kernel))) rfl
theorem ndX1 : ∀ j, j < 8 → defaultValue (tyX1 j) = vp_V [.int 0, .int 0, .null, .null, .null, .null, .null, .null] j := by decide +kernel
theorem iX2 : zIok tX2_init := ⟨zin (tb2 (List.mem_of_getElem? (i := 157) (by decide +kernel))) rfl, zin (tb1 (List.mem_of_getElem? (i := 10) (by decide +kernel))) rfl, zin (tb2 (List.mem_of_getElem? (i := 158) (by decide +kernel))) rfl, ⟨by decide +kernel, by decide +kernel, by decide +kernel⟩, by decide, rfl, rfl⟩
theorem oX2 : Cond.methodLink RX2 3 Lib.objectInit ∈ zWS := zin (tb2 (List.mem_of_getElem? (i := 159) (by decide +kernel))) rfl
theorem niX2 : Cond.instantiable RX2 2 ∈ zWS := zin (tb2 (List.mem_of_getElem? (i := 155) (by decide +kernel))) rfl
theorem naX2 : Cond.initialized RX2 ∈ zWS := zin (tb1 (List.mem_of_getElem? (i := 10) (by decide +kernel))) rfl
theorem ndX2 : ∀ j, j < 2 → defaultValue (tyX2 j) = vp_V [.null, .null] j := by decide +kernel
theorem iX3 : zIok tX3_init := ⟨zin (tb1 (List.mem_of_getElem? (i := 34) (by decide +kernel))) rfl, zin (tb1 (List.mem_of_getElem? (i := 2) (by decide +kernel))) rfl, zin (tb1 (List.mem_of_getElem? (i := 35) (by decide +kernel))) rfl, ⟨by decide +kernel, by decide +kernel, by decide +kernel⟩, by decide, rfl, rfl⟩
theorem oX3 : Cond.methodLink RX3 3 Lib.objectInit ∈ zWS := zin (tb1 (List.mem_of_getElem? (i := 36) (by decide +kernel))) rfl
theorem niX3 : Cond.instantiable RX3 17 ∈ zWS := zin (tb1 (List.mem_of_getElem? (i := 32) (by decide +kernel))) rfl
theorem naX3 : Cond.initialized RX3 ∈ zWS := zin (tb1 (List.mem_of_getElem? (i := 2) (by decide +kernel))) rfl
theorem ndX3 : ∀ j, j < 17 → defaultValue (tyX3 j) = vp_V [.int 0, .null, .null, .null, .null, .int 0, .null, .null, .null, .null, .int 0, .null, .null, .null, .null, .null, .null] j := by decide +kernel
theorem iX4 : zIok tX4_init := ⟨zin (tb2 (List.mem_of_getElem? (i := 127) (by decide +kernel))) rfl, zin (tb1 (List.mem_of_getElem? (i := 9) (by decide +kernel))) rfl, zin (tb2 (List.mem_of_getElem? (i := 128) (by decide +kernel))) rfl, ⟨by decide +kernel, by decide +kernel, by decide +kernel⟩, by decide, rfl, rfl⟩
theorem oX4 : Cond.methodLink RX4 3 Lib.objectInit ∈ zWS := zin (tb2 (List.mem_of_getElem? (i := 129) (by decide +kernel))) rfl
theorem niX4 : Cond.instantiable RX4 7 ∈ zWS := zin (tb2 (List.mem_of_getElem? (i := 125) (by decide +kernel))) rfl
theorem naX4 : Cond.initialized RX4 ∈ zWS := zin (tb1 (List.mem_of_getElem? (i := 9) (by decide +kernel))) rfl
theorem ndX4 : ∀ j, j < 7 → defaultValue (tyX4 j) = vp_V [.int 0, .int 0, .null, .null, .null, .null, .null] j := by decide +kernel
theorem iX5 : zIok tX5_init := ⟨zin (tb1 (List.mem_of_getElem? (i := 184) (by decide +kernel))) rfl, zin (tb1 (List.mem_of_getElem? (i := 5) (by decide +kernel))) rfl, zin (tb1 (List.mem_of_getElem? (i := 185) (by decide +kernel))) rfl, ⟨by decide +kernel, by decide +kernel, by decide +kernel⟩, by decide, rfl, rfl⟩
theorem oX5 : Cond.methodLink RX5 3 Lib.objectInit ∈ zWS := zin (tb1 (List.mem_of_getElem? (i := 186) (by decide +kernel))) rfl
theorem niX5 : Cond.instantiable RX5 14 ∈ zWS := zin (tb1 (List.mem_of_getElem? (i := 182) (by decide +kernel))) rfl
theorem naX5 : Cond.initialized RX5 ∈ zWS := zin (tb1 (List.mem_of_getElem? (i := 5) (by decide +kernel))) rfl
theorem ndX5 : ∀ j, j < 14 → defaultValue (tyX5 j) = vp_V [.int 0, .int 0, .null, .null, .int 0, .int 0, .int 0, .int 0, .null, .null, .int 0, .int 0, .int 0, .int 0] j := by decide +kernel
theorem iX7 : zIok tX7_init := ⟨zin (tb1 (List.mem_of_getElem? (i := 190) (by decide +kernel))) rfl, zin (tb1 (List.mem_of_getElem? (i := 6) (by decide +kernel))) rfl, zin (tb1 (List.mem_of_getElem? (i := 191) (by decide +kernel))) rfl, ⟨by decide +kernel, by decide +kernel, by decide +kernel⟩, by decide, rfl, rfl⟩
theorem oX7 : Cond.methodLink RX7 3 Lib.objectInit ∈ zWS := zin (tb1 (List.mem_of_getElem? (i := 192) (by decide +kernel))) rfl
theorem niX7 : Cond.instantiable RX7 7 ∈ zWS := zin (tb1 (List.mem_of_getElem? (i := 188) (by decide +kernel))) rfl
theorem naX7 : Cond.initialized RX7 ∈ zWS := zin (tb1 (List.mem_of_getElem? (i := 6) (by decide +kernel))) rfl
theorem ndX7 : ∀ j, j < 7 → defaultValue (tyX7 j) = vp_V [.null, .int 0, .int 0, .int 0, .null, .null, .null] j := by decide +kernel
theorem iX8 : zIok tX8_init := ⟨zin (tb2 (List.mem_of_getElem? (i := 27) (by decide +kernel))) rfl, zin (tb1 (List.mem_of_getElem? (i := 7) (by decide +kernel))) rfl, zin (tb2 (List.mem_of_getElem? (i := 28) (by decide +kernel))) rfl, ⟨by decide +kernel, by decide +kernel, by decide +kernel⟩, by decide, rfl, rfl⟩
theorem oX8 : Cond.methodLink RX8 3 Lib.objectInit ∈ zWS := zin (tb2 (List.mem_of_getElem? (i := 29) (by decide +kernel))) rfl
theorem niX8 : Cond.instantiable RX8 16 ∈ zWS := zin (tb2 (List.mem_of_getElem? (i := 25) (by decide +kernel))) rfl
theorem naX8 : Cond.initialized RX8 ∈ zWS := zin (tb1 (List.mem_of_getElem? (i := 7) (by decide +kernel))) rfl
theorem ndX8 : ∀ j, j < 16 → defaultValue (tyX8 j) = vp_V [.null, .null, .null, .null, .null, .null, .null, .null, .null, .null, .int 0, .int 0, .int 0, .int 0, .int 0, .int 0] j := by decide +kernel
theorem iX9 : zIok tX9_init := ⟨zin (tb1 (List.mem_of_getElem? (i := 26) (by decide +kernel))) rfl, zin (tb1 (List.mem_of_getElem? (i := 1) (by decide +kernel))) rfl, zin (tb1 (List.mem_of_getElem? (i := 27) (by decide +kernel))) rfl, ⟨by decide +kernel, by decide +kernel, by decide +kernel⟩, by decide, rfl, rfl⟩
theorem oX9 : Cond.methodLink RX9 3 Lib.objectInit ∈ zWS := zin (tb1 (List.mem_of_getElem? (i := 28) (by decide +kernel))) rfl
theorem niX9 : Cond.instantiable RX9 17 ∈ zWS := zin (tb1 (List.mem_of_getElem? (i := 24) (by decide +kernel))) rfl
theorem naX9 : Cond.initialized RX9 ∈ zWS := zin (tb1 (List.mem_of_getElem? (i := 1) (by decide +kernel))) rfl
theorem ndX9 : ∀ j, j < 17 → defaultValue (tyX9 j) = vp_V [.null, .int 0, .null, .null, .null, .int 0, .int 0, .null, .null, .null, .int 0, .null, .null, .null, .null, .null, .null] j := by decide +kernel
theorem iX10 : zIok tX10_init := ⟨zin (tb5 (List.mem_of_getElem? (i := 113) (by decide +kernel))) rfl, zin (tb1 (List.mem_of_getElem? (i := 11) (by decide +kernel))) rfl, zin (tb5 (List.mem_of_getElem? (i := 114) (by decide +kernel))) rfl, ⟨by decide +kernel, by decide +kernel, by decide +kernel⟩, by decide, rfl, rfl⟩
theorem oX10 : Cond.methodLink RX10 1 Lib.objectInit ∈ zWS := zin (tb5 (List.mem_of_getElem? (i := 115) (by decide +kernel))) rfl
theorem niX10 : Cond.instantiable RX10 68 ∈ zWS := zin (tb5 (List.mem_of_getElem? (i := 111) (by decide +kernel))) rfl
theorem naX10 : Cond.initialized RX10 ∈ zWS := zin (tb1 (List.mem_of_getElem? (i := 11) (by decide +kernel))) rfl
theorem ndX10 : ∀ j, j < 68 → defaultValue (tyX10 j) = vp_V [.int 0, .null, .int 0, .null, .null, .null, .null, .null, .null, .null, .null, .null, .null, .null, .null, .null, .null, .null, .null, .int 0, .int 0, .int 0, .int 0, .int 0, .int 0, .int 0, .int 0, .int 0, .int 0, .int 0, .int 0, .int 0, .null, .null, .int 0, .null, .null, .null, .null, .null, .null, .null, .null, .null, .null, .null, .null, .null, .null, .int 0, .int 0, .int 0, .int 0, .int 0, .null, .null, .null, .int 0, .null, .null, .int 0, .int 0, .int 0, .null, .null, .null, .null, .null] j := by decide +kernel
theorem ncL_8 : Cond.classLink RL 8 RX9 ∈ zWS := zin (tb1 (List.mem_of_getElem? (i := 23) (by decide +kernel))) rfl
theorem ncX9_15 : Cond.classLink RX9 15 RX3 ∈ zWS := zin (tb1 (List.mem_of_getElem? (i := 31) (by decide +kernel))) rfl
theorem ncX3_52 : Cond.classLink RX3 52 RX1 ∈ zWS := zin (tb1 (List.mem_of_getElem? (i := 37) (by decide +kernel))) rfl
theorem ncX9_25 : Cond.classLink RX9 25 RX5 ∈ zWS := zin (tb1 (List.mem_of_getElem? (i := 181) (by decide +kernel))) rfl
theorem ncX5_15 : Cond.classLink RX5 15 RX7 ∈ zWS := zin (tb1 (List.mem_of_getElem? (i := 187) (by decide +kernel))) rfl
theorem ncX9_38 : Cond.classLink RX9 38 RX8 ∈ zWS := zin (tb2 (List.mem_of_getElem? (i := 24) (by decide +kernel))) rfl
theorem ncX9_51 : Cond.classLink RX9 51 RX0 ∈ zWS := zin (tb2 (List.mem_of_getElem? (i := 101) (by decide +kernel))) rfl
theorem ncX9_58 : Cond.classLink RX9 58 RX4 ∈ zWS := zin (tb2 (List.mem_of_getElem? (i := 124) (by decide +kernel))) rfl
theorem ncX9_65 : Cond.classLink RX9 65 RX2 ∈ zWS := zin (tb2 (List.mem_of_getElem? (i := 154) (by decide +kernel))) rfl
theorem ncL_18 : Cond.classLink RL 18 RX10 ∈ zWS := zin (tb5 (List.mem_of_getElem? (i := 110) (by decide +kernel))) rfl
theorem pX1_9 : zFldF RX1 9 1 2 (.array .int) := ⟨RX1, TX1, 8, tyX1, ⟨rfl, by decide, uX1, zin (tb1 (List.mem_of_getElem? (i := 48) (by decide +kernel))) rfl⟩, tyX1_ok, nmX1, rfl, by decide +kernel, rfl⟩
theorem pX1_15 : zFldF RX1 15 1 3 (.array .int) := ⟨RX1, TX1, 8, tyX1, ⟨rfl, by decide, uX1, zin (tb1 (List.mem_of_getElem? (i := 50) (by decide +kernel))) rfl⟩, tyX1_ok, nmX1, rfl, by decide +kernel, rfl⟩
theorem pX1_18 : zFldF RX1 18 1 4 (.array .int) := ⟨RX1, TX1, 8, tyX1, ⟨rfl, by decide, uX1, zin (tb1 (List.mem_of_getElem? (i := 52) (by decide +kernel))) rfl⟩, tyX1_ok, nmX1, rfl, by decide +kernel, rfl⟩
theorem pX1_21 : zFldF RX1 21 1 5 (.array .int) := ⟨RX1, TX1, 8, tyX1, ⟨rfl, by decide, uX1, zin (tb1 (List.mem_of_getElem? (i := 53) (by decide +kernel))) rfl⟩, tyX1_ok, nmX1, rfl, by decide +kernel, rfl⟩
theorem pX1_26 : zFldF RX1 26 1 6 (.array .long) := ⟨RX1, TX1, 8, tyX1, ⟨rfl, by decide, uX1, zin (tb1 (List.mem_of_getElem? (i := 54) (by decide +kernel))) rfl⟩, tyX1_ok, nmX1, rfl, by decide +kernel, rfl⟩
theorem pX1_30 : zFldF RX1 30 1 7 (.array .long) := ⟨RX1, TX1, 8, tyX1, ⟨rfl, by decide, uX1, zin (tb1 (List.mem_of_getElem? (i := 56) (by decide +kernel))) rfl⟩, tyX1_ok, nmX1, rfl, by decide +kernel, rfl⟩
theorem pX3_9 : zFldF RX3 9 3 1 (.array .int) := ⟨RX3, TX3, 17, tyX3, ⟨rfl, by decide, uX3, zin (tb1 (List.mem_of_getElem? (i := 88) (by decide +kernel))) rfl⟩, tyX3_ok, nmX3, rfl, by decide +kernel, rfl⟩
theorem pX3_15 : zFldF RX3 15 3 2 (.array .int) := ⟨RX3, TX3, 17, tyX3, ⟨rfl, by decide, uX3, zin (tb1 (List.mem_of_getElem? (i := 91) (by decide +kernel))) rfl⟩, tyX3_ok, nmX3, rfl, by decide +kernel, rfl⟩
theorem pX3_18 : zFldF RX3 18 3 3 (.array .int) := ⟨RX3, TX3, 17, tyX3, ⟨rfl, by decide, uX3, zin (tb1 (List.mem_of_getElem? (i := 95) (by decide +kernel))) rfl⟩, tyX3_ok, nmX3, rfl, by decide +kernel, rfl⟩
theorem pX3_21 : zFldF RX3 21 3 4 (.array .int) := ⟨RX3, TX3, 17, tyX3, ⟨rfl, by decide, uX3, zin (tb1 (List.mem_of_getElem? (i := 98) (by decide +kernel))) rfl⟩, tyX3_ok, nmX3, rfl, by decide +kernel, rfl⟩
theorem pX3_24 : zFldF RX3 24 3 6 (.array .int) := ⟨RX3, TX3, 17, tyX3, ⟨rfl, by decide, uX3, zin (tb1 (List.mem_of_getElem? (i := 108) (by decide +kernel))) rfl⟩, tyX3_ok, nmX3, rfl, by decide +kernel, rfl⟩
theorem pX3_27 : zFldF RX3 27 3 7 (.array .int) := ⟨RX3, TX3, 17, tyX3, ⟨rfl, by decide, uX3, zin (tb1 (List.mem_of_getElem? (i := 111) (by decide +kernel))) rfl⟩, tyX3_ok, nmX3, rfl, by decide +kernel, rfl⟩
theorem pX3_30 : zFldF RX3 30 3 8 (.array .int) := ⟨RX3, TX3, 17, tyX3, ⟨rfl, by decide, uX3, zin (tb1 (List.mem_of_getElem? (i := 116) (by decide +kernel))) rfl⟩, tyX3_ok, nmX3, rfl, by decide +kernel, rfl⟩
theorem pX3_33 : zFldF RX3 33 3 9 (.array .int) := ⟨RX3, TX3, 17, tyX3, ⟨rfl, by decide, uX3, zin (tb1 (List.mem_of_getElem? (i := 121) (by decide +kernel))) rfl⟩, tyX3_ok, nmX3, rfl, by decide +kernel, rfl⟩
theorem pX3_36 : zFldF RX3 36 3 11 (.array .int) := ⟨RX3, TX3, 17, tyX3, ⟨rfl, by decide, uX3, zin (tb1 (List.mem_of_getElem? (i := 127) (by decide +kernel))) rfl⟩, tyX3_ok, nmX3, rfl, by decide +kernel, rfl⟩
theorem pX3_39 : zFldF RX3 39 3 12 (.array .int) := ⟨RX3, TX3, 17, tyX3, ⟨rfl, by decide, uX3, zin (tb1 (List.mem_of_getElem? (i := 130) (by decide +kernel))) rfl⟩, tyX3_ok, nmX3, rfl, by decide +kernel, rfl⟩
theorem pX3_42 : zFldF RX3 42 3 13 (.array .int) := ⟨RX3, TX3, 17, tyX3, ⟨rfl, by decide, uX3, zin (tb1 (List.mem_of_getElem? (i := 133) (by decide +kernel))) rfl⟩, tyX3_ok, nmX3, rfl, by decide +kernel, rfl⟩
theorem pX3_45 : zFldF RX3 45 3 14 (.array .int) := ⟨RX3, TX3, 17, tyX3, ⟨rfl, by decide, uX3, zin (tb1 (List.mem_of_getElem? (i := 136) (by decide +kernel))) rfl⟩, tyX3_ok, nmX3, rfl, by decide +kernel, rfl⟩
theorem pX3_48 : zFldF RX3 48 3 15 (.array .boolean) := ⟨RX3, TX3, 17, tyX3, ⟨rfl, by decide, uX3, zin (tb1 (List.mem_of_getElem? (i := 140) (by decide +kernel))) rfl⟩, tyX3_ok, nmX3, rfl, by decide +kernel, rfl⟩
theorem pX3_55 : zFldF RX3 55 3 16 (.object "ColdFeet$Laws") := ⟨RX3, TX3, 17, tyX3, ⟨rfl, by decide, uX3, zin (tb1 (List.mem_of_getElem? (i := 142) (by decide +kernel))) rfl⟩, tyX3_ok, nmX3, rfl, by decide +kernel, rfl⟩
theorem pX7_15 : zFldF RX7 15 6 4 (.array .int) := ⟨RX7, TX7, 7, tyX7, ⟨rfl, by decide, uX7, zin (tb1 (List.mem_of_getElem? (i := 198) (by decide +kernel))) rfl⟩, tyX7_ok, nmX7, rfl, by decide +kernel, rfl⟩
theorem pX7_19 : zFldF RX7 19 6 5 (.array .int) := ⟨RX7, TX7, 7, tyX7, ⟨rfl, by decide, uX7, zin (tb1 (List.mem_of_getElem? (i := 200) (by decide +kernel))) rfl⟩, tyX7_ok, nmX7, rfl, by decide +kernel, rfl⟩
theorem pX7_22 : zFldF RX7 22 6 6 (.array .int) := ⟨RX7, TX7, 7, tyX7, ⟨rfl, by decide, uX7, zin (tb1 (List.mem_of_getElem? (i := 202) (by decide +kernel))) rfl⟩, tyX7_ok, nmX7, rfl, by decide +kernel, rfl⟩
theorem pX5_18 : zFldF RX5 18 5 2 (.object "ColdFeet$TokenCutter") := ⟨RX5, TX5, 14, tyX5, ⟨rfl, by decide, uX5, zin (tb1 (List.mem_of_getElem? (i := 223) (by decide +kernel))) rfl⟩, tyX5_ok, nmX5, rfl, by decide +kernel, rfl⟩
theorem pX5_22 : zFldF RX5 22 5 8 (.array .int) := ⟨RX5, TX5, 14, tyX5, ⟨rfl, by decide, uX5, zin (tb1 (List.mem_of_getElem? (i := 229) (by decide +kernel))) rfl⟩, tyX5_ok, nmX5, rfl, by decide +kernel, rfl⟩
theorem pX5_26 : zFldF RX5 26 5 9 (.array .int) := ⟨RX5, TX5, 14, tyX5, ⟨rfl, by decide, uX5, zin (tb1 (List.mem_of_getElem? (i := 230) (by decide +kernel))) rfl⟩, tyX5_ok, nmX5, rfl, by decide +kernel, rfl⟩
theorem pX8_9 : zFldF RX8 9 7 1 (.array .int) := ⟨RX8, TX8, 16, tyX8, ⟨rfl, by decide, uX8, zin (tb2 (List.mem_of_getElem? (i := 36) (by decide +kernel))) rfl⟩, tyX8_ok, nmX8, rfl, by decide +kernel, rfl⟩
theorem pX8_15 : zFldF RX8 15 7 2 (.array .int) := ⟨RX8, TX8, 16, tyX8, ⟨rfl, by decide, uX8, zin (tb2 (List.mem_of_getElem? (i := 38) (by decide +kernel))) rfl⟩, tyX8_ok, nmX8, rfl, by decide +kernel, rfl⟩
theorem pX8_18 : zFldF RX8 18 7 3 (.array .int) := ⟨RX8, TX8, 16, tyX8, ⟨rfl, by decide, uX8, zin (tb2 (List.mem_of_getElem? (i := 40) (by decide +kernel))) rfl⟩, tyX8_ok, nmX8, rfl, by decide +kernel, rfl⟩
theorem pX8_21 : zFldF RX8 21 7 4 (.array .int) := ⟨RX8, TX8, 16, tyX8, ⟨rfl, by decide, uX8, zin (tb2 (List.mem_of_getElem? (i := 42) (by decide +kernel))) rfl⟩, tyX8_ok, nmX8, rfl, by decide +kernel, rfl⟩
theorem pX8_24 : zFldF RX8 24 7 5 (.array .int) := ⟨RX8, TX8, 16, tyX8, ⟨rfl, by decide, uX8, zin (tb2 (List.mem_of_getElem? (i := 45) (by decide +kernel))) rfl⟩, tyX8_ok, nmX8, rfl, by decide +kernel, rfl⟩
theorem pX8_27 : zFldF RX8 27 7 6 (.array .int) := ⟨RX8, TX8, 16, tyX8, ⟨rfl, by decide, uX8, zin (tb2 (List.mem_of_getElem? (i := 47) (by decide +kernel))) rfl⟩, tyX8_ok, nmX8, rfl, by decide +kernel, rfl⟩
theorem pX8_30 : zFldF RX8 30 7 7 (.array .boolean) := ⟨RX8, TX8, 16, tyX8, ⟨rfl, by decide, uX8, zin (tb2 (List.mem_of_getElem? (i := 49) (by decide +kernel))) rfl⟩, tyX8_ok, nmX8, rfl, by decide +kernel, rfl⟩
theorem pX8_34 : zFldF RX8 34 7 8 (.array .int) := ⟨RX8, TX8, 16, tyX8, ⟨rfl, by decide, uX8, zin (tb2 (List.mem_of_getElem? (i := 51) (by decide +kernel))) rfl⟩, tyX8_ok, nmX8, rfl, by decide +kernel, rfl⟩
theorem pX8_37 : zFldF RX8 37 7 9 (.array .int) := ⟨RX8, TX8, 16, tyX8, ⟨rfl, by decide, uX8, zin (tb2 (List.mem_of_getElem? (i := 54) (by decide +kernel))) rfl⟩, tyX8_ok, nmX8, rfl, by decide +kernel, rfl⟩
theorem pX0_9 : zFldF RX0 9 0 1 (.array .int) := ⟨RX0, TX0, 4, tyX0, ⟨rfl, by decide, uX0, zin (tb2 (List.mem_of_getElem? (i := 109) (by decide +kernel))) rfl⟩, tyX0_ok, nmX0, rfl, by decide +kernel, rfl⟩
theorem pX0_15 : zFldF RX0 15 0 2 (.array .int) := ⟨RX0, TX0, 4, tyX0, ⟨rfl, by decide, uX0, zin (tb2 (List.mem_of_getElem? (i := 111) (by decide +kernel))) rfl⟩, tyX0_ok, nmX0, rfl, by decide +kernel, rfl⟩
theorem pX0_18 : zFldF RX0 18 0 3 (.array .int) := ⟨RX0, TX0, 4, tyX0, ⟨rfl, by decide, uX0, zin (tb2 (List.mem_of_getElem? (i := 113) (by decide +kernel))) rfl⟩, tyX0_ok, nmX0, rfl, by decide +kernel, rfl⟩
theorem pX4_15 : zFldF RX4 15 4 2 (.array .int) := ⟨RX4, TX4, 7, tyX4, ⟨rfl, by decide, uX4, zin (tb2 (List.mem_of_getElem? (i := 134) (by decide +kernel))) rfl⟩, tyX4_ok, nmX4, rfl, by decide +kernel, rfl⟩
theorem pX4_19 : zFldF RX4 19 4 3 (.array .int) := ⟨RX4, TX4, 7, tyX4, ⟨rfl, by decide, uX4, zin (tb2 (List.mem_of_getElem? (i := 135) (by decide +kernel))) rfl⟩, tyX4_ok, nmX4, rfl, by decide +kernel, rfl⟩
theorem pX4_22 : zFldF RX4 22 4 4 (.array .boolean) := ⟨RX4, TX4, 7, tyX4, ⟨rfl, by decide, uX4, zin (tb2 (List.mem_of_getElem? (i := 136) (by decide +kernel))) rfl⟩, tyX4_ok, nmX4, rfl, by decide +kernel, rfl⟩
theorem pX4_26 : zFldF RX4 26 4 5 (.array .int) := ⟨RX4, TX4, 7, tyX4, ⟨rfl, by decide, uX4, zin (tb2 (List.mem_of_getElem? (i := 137) (by decide +kernel))) rfl⟩, tyX4_ok, nmX4, rfl, by decide +kernel, rfl⟩
theorem pX4_29 : zFldF RX4 29 4 6 (.array .boolean) := ⟨RX4, TX4, 7, tyX4, ⟨rfl, by decide, uX4, zin (tb2 (List.mem_of_getElem? (i := 138) (by decide +kernel))) rfl⟩, tyX4_ok, nmX4, rfl, by decide +kernel, rfl⟩
theorem pX2_11 : zFldF RX2 11 2 0 (.array .int) := ⟨RX2, TX2, 2, tyX2, ⟨rfl, by decide, uX2, zin (tb2 (List.mem_of_getElem? (i := 160) (by decide +kernel))) rfl⟩, tyX2_ok, nmX2, rfl, by decide +kernel, rfl⟩
theorem pX2_15 : zFldF RX2 15 2 1 (.array .int) := ⟨RX2, TX2, 2, tyX2, ⟨rfl, by decide, uX2, zin (tb2 (List.mem_of_getElem? (i := 161) (by decide +kernel))) rfl⟩, tyX2_ok, nmX2, rfl, by decide +kernel, rfl⟩
theorem pX9_11 : zFldF RX9 11 8 0 (.array .byte) := ⟨RX9, TX9, 17, tyX9, ⟨rfl, by decide, uX9, zin (tb2 (List.mem_of_getElem? (i := 168) (by decide +kernel))) rfl⟩, tyX9_ok, nmX9, rfl, by decide +kernel, rfl⟩
theorem pX9_30 : zFldF RX9 30 8 4 (.object "ColdFeet$TextReader") := ⟨RX9, TX9, 17, tyX9, ⟨rfl, by decide, uX9, zin (tb2 (List.mem_of_getElem? (i := 172) (by decide +kernel))) rfl⟩, tyX9_ok, nmX9, rfl, by decide +kernel, rfl⟩
theorem pX9_41 : zFldF RX9 41 8 7 (.object "ColdFeet$World") := ⟨RX9, TX9, 17, tyX9, ⟨rfl, by decide, uX9, zin (tb2 (List.mem_of_getElem? (i := 175) (by decide +kernel))) rfl⟩, tyX9_ok, nmX9, rfl, by decide +kernel, rfl⟩
theorem pX9_45 : zFldF RX9 45 8 8 (.object "ColdFeet$World") := ⟨RX9, TX9, 17, tyX9, ⟨rfl, by decide, uX9, zin (tb2 (List.mem_of_getElem? (i := 176) (by decide +kernel))) rfl⟩, tyX9_ok, nmX9, rfl, by decide +kernel, rfl⟩
theorem pX9_48 : zFldF RX9 48 8 9 (.object "ColdFeet$World") := ⟨RX9, TX9, 17, tyX9, ⟨rfl, by decide, uX9, zin (tb2 (List.mem_of_getElem? (i := 177) (by decide +kernel))) rfl⟩, tyX9_ok, nmX9, rfl, by decide +kernel, rfl⟩
theorem pX9_54 : zFldF RX9 54 8 11 (.object "ColdFeet$Deeds") := ⟨RX9, TX9, 17, tyX9, ⟨rfl, by decide, uX9, zin (tb2 (List.mem_of_getElem? (i := 179) (by decide +kernel))) rfl⟩, tyX9_ok, nmX9, rfl, by decide +kernel, rfl⟩
theorem pX9_61 : zFldF RX9 61 8 12 (.object "ColdFeet$Sight") := ⟨RX9, TX9, 17, tyX9, ⟨rfl, by decide, uX9, zin (tb2 (List.mem_of_getElem? (i := 180) (by decide +kernel))) rfl⟩, tyX9_ok, nmX9, rfl, by decide +kernel, rfl⟩
theorem pX9_68 : zFldF RX9 68 8 13 (.object "ColdFeet$Matching") := ⟨RX9, TX9, 17, tyX9, ⟨rfl, by decide, uX9, zin (tb2 (List.mem_of_getElem? (i := 181) (by decide +kernel))) rfl⟩, tyX9_ok, nmX9, rfl, by decide +kernel, rfl⟩
theorem pX9_72 : zFldF RX9 72 8 14 (.array .int) := ⟨RX9, TX9, 17, tyX9, ⟨rfl, by decide, uX9, zin (tb2 (List.mem_of_getElem? (i := 182) (by decide +kernel))) rfl⟩, tyX9_ok, nmX9, rfl, by decide +kernel, rfl⟩
theorem pX9_76 : zFldF RX9 76 8 15 (.array .int) := ⟨RX9, TX9, 17, tyX9, ⟨rfl, by decide, uX9, zin (tb2 (List.mem_of_getElem? (i := 183) (by decide +kernel))) rfl⟩, tyX9_ok, nmX9, rfl, by decide +kernel, rfl⟩
theorem pX9_79 : zFldF RX9 79 8 16 (.array .int) := ⟨RX9, TX9, 17, tyX9, ⟨rfl, by decide, uX9, zin (tb2 (List.mem_of_getElem? (i := 184) (by decide +kernel))) rfl⟩, tyX9_ok, nmX9, rfl, by decide +kernel, rfl⟩
theorem pX10_7 : zFldF RX10 7 9 1 (.array .int) := ⟨RX10, TX10, 68, tyX10, ⟨rfl, by decide, uX10, zin (tb5 (List.mem_of_getElem? (i := 125) (by decide +kernel))) rfl⟩, tyX10_ok, nmX10, rfl, by decide +kernel, rfl⟩
theorem pX10_13 : zFldF RX10 13 9 3 (.array .int) := ⟨RX10, TX10, 68, tyX10, ⟨rfl, by decide, uX10, zin (tb5 (List.mem_of_getElem? (i := 127) (by decide +kernel))) rfl⟩, tyX10_ok, nmX10, rfl, by decide +kernel, rfl⟩
theorem pX10_16 : zFldF RX10 16 9 4 (.array .int) := ⟨RX10, TX10, 68, tyX10, ⟨rfl, by decide, uX10, zin (tb5 (List.mem_of_getElem? (i := 128) (by decide +kernel))) rfl⟩, tyX10_ok, nmX10, rfl, by decide +kernel, rfl⟩
theorem pX10_19 : zFldF RX10 19 9 5 (.array .int) := ⟨RX10, TX10, 68, tyX10, ⟨rfl, by decide, uX10, zin (tb5 (List.mem_of_getElem? (i := 129) (by decide +kernel))) rfl⟩, tyX10_ok, nmX10, rfl, by decide +kernel, rfl⟩
theorem pX10_22 : zFldF RX10 22 9 6 (.array .int) := ⟨RX10, TX10, 68, tyX10, ⟨rfl, by decide, uX10, zin (tb5 (List.mem_of_getElem? (i := 130) (by decide +kernel))) rfl⟩, tyX10_ok, nmX10, rfl, by decide +kernel, rfl⟩
theorem pX10_25 : zFldF RX10 25 9 7 (.array .int) := ⟨RX10, TX10, 68, tyX10, ⟨rfl, by decide, uX10, zin (tb5 (List.mem_of_getElem? (i := 131) (by decide +kernel))) rfl⟩, tyX10_ok, nmX10, rfl, by decide +kernel, rfl⟩
theorem pX10_28 : zFldF RX10 28 9 8 (.array .int) := ⟨RX10, TX10, 68, tyX10, ⟨rfl, by decide, uX10, zin (tb5 (List.mem_of_getElem? (i := 132) (by decide +kernel))) rfl⟩, tyX10_ok, nmX10, rfl, by decide +kernel, rfl⟩
theorem pX10_31 : zFldF RX10 31 9 9 (.array .int) := ⟨RX10, TX10, 68, tyX10, ⟨rfl, by decide, uX10, zin (tb5 (List.mem_of_getElem? (i := 133) (by decide +kernel))) rfl⟩, tyX10_ok, nmX10, rfl, by decide +kernel, rfl⟩
theorem pX10_34 : zFldF RX10 34 9 10 (.array .int) := ⟨RX10, TX10, 68, tyX10, ⟨rfl, by decide, uX10, zin (tb5 (List.mem_of_getElem? (i := 134) (by decide +kernel))) rfl⟩, tyX10_ok, nmX10, rfl, by decide +kernel, rfl⟩
theorem pX10_37 : zFldF RX10 37 9 11 (.array .int) := ⟨RX10, TX10, 68, tyX10, ⟨rfl, by decide, uX10, zin (tb5 (List.mem_of_getElem? (i := 135) (by decide +kernel))) rfl⟩, tyX10_ok, nmX10, rfl, by decide +kernel, rfl⟩
theorem pX10_40 : zFldF RX10 40 9 12 (.array .int) := ⟨RX10, TX10, 68, tyX10, ⟨rfl, by decide, uX10, zin (tb5 (List.mem_of_getElem? (i := 136) (by decide +kernel))) rfl⟩, tyX10_ok, nmX10, rfl, by decide +kernel, rfl⟩
theorem pX10_43 : zFldF RX10 43 9 13 (.array .int) := ⟨RX10, TX10, 68, tyX10, ⟨rfl, by decide, uX10, zin (tb5 (List.mem_of_getElem? (i := 137) (by decide +kernel))) rfl⟩, tyX10_ok, nmX10, rfl, by decide +kernel, rfl⟩
theorem pX10_46 : zFldF RX10 46 9 14 (.array .int) := ⟨RX10, TX10, 68, tyX10, ⟨rfl, by decide, uX10, zin (tb5 (List.mem_of_getElem? (i := 138) (by decide +kernel))) rfl⟩, tyX10_ok, nmX10, rfl, by decide +kernel, rfl⟩
theorem pX10_49 : zFldF RX10 49 9 15 (.array .int) := ⟨RX10, TX10, 68, tyX10, ⟨rfl, by decide, uX10, zin (tb5 (List.mem_of_getElem? (i := 139) (by decide +kernel))) rfl⟩, tyX10_ok, nmX10, rfl, by decide +kernel, rfl⟩
theorem pX10_52 : zFldF RX10 52 9 16 (.array .int) := ⟨RX10, TX10, 68, tyX10, ⟨rfl, by decide, uX10, zin (tb5 (List.mem_of_getElem? (i := 140) (by decide +kernel))) rfl⟩, tyX10_ok, nmX10, rfl, by decide +kernel, rfl⟩
theorem pX10_55 : zFldF RX10 55 9 17 (.array .int) := ⟨RX10, TX10, 68, tyX10, ⟨rfl, by decide, uX10, zin (tb5 (List.mem_of_getElem? (i := 141) (by decide +kernel))) rfl⟩, tyX10_ok, nmX10, rfl, by decide +kernel, rfl⟩
theorem pX10_58 : zFldF RX10 58 9 18 (.array .int) := ⟨RX10, TX10, 68, tyX10, ⟨rfl, by decide, uX10, zin (tb5 (List.mem_of_getElem? (i := 142) (by decide +kernel))) rfl⟩, tyX10_ok, nmX10, rfl, by decide +kernel, rfl⟩
theorem pX10_65 : zFldF RX10 65 9 32 (.array .long) := ⟨RX10, TX10, 68, tyX10, ⟨rfl, by decide, uX10, zin (tb5 (List.mem_of_getElem? (i := 156) (by decide +kernel))) rfl⟩, tyX10_ok, nmX10, rfl, by decide +kernel, rfl⟩
theorem pX10_69 : zFldF RX10 69 9 33 (.array .long) := ⟨RX10, TX10, 68, tyX10, ⟨rfl, by decide, uX10, zin (tb5 (List.mem_of_getElem? (i := 157) (by decide +kernel))) rfl⟩, tyX10_ok, nmX10, rfl, by decide +kernel, rfl⟩
theorem pX10_72 : zFldF RX10 72 9 35 (.array .int) := ⟨RX10, TX10, 68, tyX10, ⟨rfl, by decide, uX10, zin (tb5 (List.mem_of_getElem? (i := 159) (by decide +kernel))) rfl⟩, tyX10_ok, nmX10, rfl, by decide +kernel, rfl⟩
theorem pX10_75 : zFldF RX10 75 9 36 (.array .int) := ⟨RX10, TX10, 68, tyX10, ⟨rfl, by decide, uX10, zin (tb5 (List.mem_of_getElem? (i := 160) (by decide +kernel))) rfl⟩, tyX10_ok, nmX10, rfl, by decide +kernel, rfl⟩
theorem pX10_78 : zFldF RX10 78 9 37 (.array .int) := ⟨RX10, TX10, 68, tyX10, ⟨rfl, by decide, uX10, zin (tb5 (List.mem_of_getElem? (i := 161) (by decide +kernel))) rfl⟩, tyX10_ok, nmX10, rfl, by decide +kernel, rfl⟩
theorem pX10_81 : zFldF RX10 81 9 38 (.array .int) := ⟨RX10, TX10, 68, tyX10, ⟨rfl, by decide, uX10, zin (tb5 (List.mem_of_getElem? (i := 162) (by decide +kernel))) rfl⟩, tyX10_ok, nmX10, rfl, by decide +kernel, rfl⟩
theorem pX10_84 : zFldF RX10 84 9 39 (.array .int) := ⟨RX10, TX10, 68, tyX10, ⟨rfl, by decide, uX10, zin (tb5 (List.mem_of_getElem? (i := 163) (by decide +kernel))) rfl⟩, tyX10_ok, nmX10, rfl, by decide +kernel, rfl⟩
theorem pX10_87 : zFldF RX10 87 9 40 (.array .int) := ⟨RX10, TX10, 68, tyX10, ⟨rfl, by decide, uX10, zin (tb5 (List.mem_of_getElem? (i := 164) (by decide +kernel))) rfl⟩, tyX10_ok, nmX10, rfl, by decide +kernel, rfl⟩
theorem pX10_90 : zFldF RX10 90 9 41 (.array .int) := ⟨RX10, TX10, 68, tyX10, ⟨rfl, by decide, uX10, zin (tb5 (List.mem_of_getElem? (i := 165) (by decide +kernel))) rfl⟩, tyX10_ok, nmX10, rfl, by decide +kernel, rfl⟩
theorem pX10_93 : zFldF RX10 93 9 42 (.array .int) := ⟨RX10, TX10, 68, tyX10, ⟨rfl, by decide, uX10, zin (tb5 (List.mem_of_getElem? (i := 166) (by decide +kernel))) rfl⟩, tyX10_ok, nmX10, rfl, by decide +kernel, rfl⟩
theorem pX10_96 : zFldF RX10 96 9 43 (.array .int) := ⟨RX10, TX10, 68, tyX10, ⟨rfl, by decide, uX10, zin (tb5 (List.mem_of_getElem? (i := 167) (by decide +kernel))) rfl⟩, tyX10_ok, nmX10, rfl, by decide +kernel, rfl⟩
theorem pX10_99 : zFldF RX10 99 9 44 (.array .int) := ⟨RX10, TX10, 68, tyX10, ⟨rfl, by decide, uX10, zin (tb5 (List.mem_of_getElem? (i := 168) (by decide +kernel))) rfl⟩, tyX10_ok, nmX10, rfl, by decide +kernel, rfl⟩
theorem pX10_102 : zFldF RX10 102 9 45 (.array .int) := ⟨RX10, TX10, 68, tyX10, ⟨rfl, by decide, uX10, zin (tb5 (List.mem_of_getElem? (i := 169) (by decide +kernel))) rfl⟩, tyX10_ok, nmX10, rfl, by decide +kernel, rfl⟩
theorem pX10_105 : zFldF RX10 105 9 46 (.array .int) := ⟨RX10, TX10, 68, tyX10, ⟨rfl, by decide, uX10, zin (tb5 (List.mem_of_getElem? (i := 170) (by decide +kernel))) rfl⟩, tyX10_ok, nmX10, rfl, by decide +kernel, rfl⟩
theorem pX10_108 : zFldF RX10 108 9 47 (.array .int) := ⟨RX10, TX10, 68, tyX10, ⟨rfl, by decide, uX10, zin (tb5 (List.mem_of_getElem? (i := 171) (by decide +kernel))) rfl⟩, tyX10_ok, nmX10, rfl, by decide +kernel, rfl⟩
theorem pX10_111 : zFldF RX10 111 9 48 (.array .int) := ⟨RX10, TX10, 68, tyX10, ⟨rfl, by decide, uX10, zin (tb5 (List.mem_of_getElem? (i := 172) (by decide +kernel))) rfl⟩, tyX10_ok, nmX10, rfl, by decide +kernel, rfl⟩
theorem pX10_117 : zFldF RX10 117 9 54 (.array .int) := ⟨RX10, TX10, 68, tyX10, ⟨rfl, by decide, uX10, zin (tb5 (List.mem_of_getElem? (i := 178) (by decide +kernel))) rfl⟩, tyX10_ok, nmX10, rfl, by decide +kernel, rfl⟩
theorem pX10_120 : zFldF RX10 120 9 55 (.array .int) := ⟨RX10, TX10, 68, tyX10, ⟨rfl, by decide, uX10, zin (tb5 (List.mem_of_getElem? (i := 179) (by decide +kernel))) rfl⟩, tyX10_ok, nmX10, rfl, by decide +kernel, rfl⟩
theorem pX10_123 : zFldF RX10 123 9 56 (.array .int) := ⟨RX10, TX10, 68, tyX10, ⟨rfl, by decide, uX10, zin (tb5 (List.mem_of_getElem? (i := 180) (by decide +kernel))) rfl⟩, tyX10_ok, nmX10, rfl, by decide +kernel, rfl⟩
theorem pX10_126 : zFldF RX10 126 9 58 (.array .int) := ⟨RX10, TX10, 68, tyX10, ⟨rfl, by decide, uX10, zin (tb5 (List.mem_of_getElem? (i := 182) (by decide +kernel))) rfl⟩, tyX10_ok, nmX10, rfl, by decide +kernel, rfl⟩
theorem pX10_129 : zFldF RX10 129 9 59 (.array .int) := ⟨RX10, TX10, 68, tyX10, ⟨rfl, by decide, uX10, zin (tb5 (List.mem_of_getElem? (i := 183) (by decide +kernel))) rfl⟩, tyX10_ok, nmX10, rfl, by decide +kernel, rfl⟩
theorem pX10_135 : zFldF RX10 135 9 63 (.array .int) := ⟨RX10, TX10, 68, tyX10, ⟨rfl, by decide, uX10, zin (tb5 (List.mem_of_getElem? (i := 187) (by decide +kernel))) rfl⟩, tyX10_ok, nmX10, rfl, by decide +kernel, rfl⟩
theorem pX10_138 : zFldF RX10 138 9 64 (.array .int) := ⟨RX10, TX10, 68, tyX10, ⟨rfl, by decide, uX10, zin (tb5 (List.mem_of_getElem? (i := 188) (by decide +kernel))) rfl⟩, tyX10_ok, nmX10, rfl, by decide +kernel, rfl⟩
theorem pX10_141 : zFldF RX10 141 9 65 (.array .boolean) := ⟨RX10, TX10, 68, tyX10, ⟨rfl, by decide, uX10, zin (tb5 (List.mem_of_getElem? (i := 189) (by decide +kernel))) rfl⟩, tyX10_ok, nmX10, rfl, by decide +kernel, rfl⟩
theorem pX10_145 : zFldF RX10 145 9 66 (.array .int) := ⟨RX10, TX10, 68, tyX10, ⟨rfl, by decide, uX10, zin (tb5 (List.mem_of_getElem? (i := 190) (by decide +kernel))) rfl⟩, tyX10_ok, nmX10, rfl, by decide +kernel, rfl⟩
theorem pX10_148 : zFldF RX10 148 9 67 (.array .boolean) := ⟨RX10, TX10, 68, tyX10, ⟨rfl, by decide, uX10, zin (tb5 (List.mem_of_getElem? (i := 191) (by decide +kernel))) rfl⟩, tyX10_ok, nmX10, rfl, by decide +kernel, rfl⟩
theorem zb_hj {w L : va_W} {j : Nat} {c : Nat × va_E} (h : L[j]? = some c) : (w ++ L)[w.length + j]? = some c := by
  rw [List.getElem?_append_right (Nat.le_add_right _ _), Nat.add_sub_cancel_left]
  exact h
theorem zb_sj {w L : va_W} {j : Nat} {c : Nat × va_E} : (w ++ L).set (w.length + j) c = w ++ L.set j c := by
  rw [List.set_append_right _ _ (Nat.le_add_right _ _), Nat.add_sub_cancel_left]
theorem zb_hw {w L : va_W} {j : Nat} {c : Nat × va_E} (h : w[j]? = some c) : (w ++ L)[j]? = some c := by
  rw [List.getElem?_append_left (List.getElem?_eq_some_iff.mp h).1]
  exact h
theorem zb_at {B : bG} {z0 : Nat} {X : zX} {P : va_W → Prop} {pc pc' k k' n n' : Nat} {lv : List (Option Value)} {st : List Value} {ws : va_W} (h1 : pc = pc') (h2 : k = k') (h3 : n = n') (kk : ZB B z0 X P pc' lv st ws k' n') : ZB B z0 X P pc lv st ws k n := by
  subst h1 h2 h3
  exact kk
def cX0 (B : bG) (h : Nat) (q : Nat → Nat) : va_W := [(h, .inr (0, [.int 0, .ref (q 0), .ref (q 1), .ref (q 2)])), ((q 0), .inl (B.2 0, 20, .inl (fun _ => 0))), ((q 1), .inl (B.2 0, 20, .inl (fun _ => 0))), ((q 2), .inl (B.2 0, 20, .inl (fun _ => 0)))]
theorem bX0_init {B : bG} {z0 a0 : Nat} {w : va_W} {h : Nat} : Cb B z0 a0 1 3 60 tX0_init [.ref h] (w ++ [(h, .inr (0, [.int 0, .null, .null, .null]))]) (fun ws => ∃ q : Nat → Nat, ws = w ++ cX0 B h q) := by
  refine Cb.of rfl (by decide) (Nat.le_of_ble_eq_true rfl) (fun X hX hin => ?_)
  refine zb_aload_n hX dX0_init_0 rfl ?_
  refine zb_objInit hX oX0 dX0_init_1 (by decide) (Nat.le_of_ble_eq_true rfl) ?_
  refine zb_aload_n hX dX0_init_4 rfl ?_
  refine zb_bipush hX (20) dX0_init_5 (by decide) ?_
  refine zb_newI hX (N := 20) (by decide) (by decide) (by decide) (by decide) (by decide) dX0_init_7 (fun a0 => ?_)
  refine zb_cast zb_mv ?_
  refine zb_putF0 hX hin pX0_9 dX0_init_9 (Nat.le_of_ble_eq_true rfl) rfl rfl (fs' := [.int 0, .ref a0, .null, .null]) rfl ?_
  refine zb_aload_n hX dX0_init_12 rfl ?_
  refine zb_at (pc' := 13) (k' := 1) (n' := 20) rfl rfl rfl ?_
  refine zb_bipush hX (20) dX0_init_13 (by decide) ?_
  refine zb_newI hX (N := 20) (by decide) (by decide) (by decide) (by decide) (by decide) dX0_init_15 (fun a1 => ?_)
  refine zb_cast zb_mv ?_
  refine zb_putF0 hX hin pX0_15 dX0_init_17 (Nat.le_of_ble_eq_true rfl) rfl rfl (fs' := [.int 0, .ref a0, .ref a1, .null]) rfl ?_
  refine zb_aload_n hX dX0_init_20 rfl ?_
  refine zb_bipush hX (20) dX0_init_21 (by decide) ?_
  refine zb_newI hX (N := 20) (by decide) (by decide) (by decide) (by decide) (by decide) dX0_init_23 (fun a2 => ?_)
  refine zb_cast zb_mv ?_
  refine zb_putF0 hX hin pX0_18 dX0_init_25 (Nat.le_of_ble_eq_true rfl) rfl rfl (fs' := [.int 0, .ref a0, .ref a1, .ref a2]) rfl ?_
  refine zb_return hX dX0_init_28 (by decide) (by decide) ?_
  exact ⟨fun i => [a0, a1, a2].getD i 0, rfl⟩
def cX1 (B : bG) (h : Nat) (q : Nat → Nat) : va_W := [(h, .inr (1, [.int 0, .int 0, .ref (q 0), .ref (q 1), .ref (q 2), .ref (q 3), .ref (q 4), .ref (q 5)])), ((q 0), .inl (B.2 0, 3, .inl (upd (upd (upd (fun _ => 0) 0 (-1)) 1 (-1)) 2 (-1)))), ((q 1), .inl (B.2 0, 3, .inl (upd (upd (upd (fun _ => 0) 0 (-1)) 1 (-1)) 2 (-1)))), ((q 2), .inl (B.2 0, 64, .inl (fun _ => 0))), ((q 3), .inl (B.2 0, 64, .inl (fun _ => 0))), ((q 4), .inl (B.2 3, 7, .inr (.inl (fun _ => 0)))), ((q 5), .inl (B.2 3, 64, .inr (.inl (fun _ => 0))))]
theorem bX1_init {B : bG} {z0 a0 : Nat} {w : va_W} {h : Nat} : Cb B z0 a0 1 6 205 tX1_init [.ref h] (w ++ [(h, .inr (1, [.int 0, .int 0, .null, .null, .null, .null, .null, .null]))]) (fun ws => ∃ q : Nat → Nat, ws = w ++ cX1 B h q) := by
  refine Cb.of rfl (by decide) (Nat.le_of_ble_eq_true rfl) (fun X hX hin => ?_)
  refine zb_aload_n hX dX1_init_0 rfl ?_
  refine zb_objInit hX oX1 dX1_init_1 (by decide) (Nat.le_of_ble_eq_true rfl) ?_
  refine zb_aload_n hX dX1_init_4 rfl ?_
  refine zb_iconst hX (3) dX1_init_5 (by decide) ?_
  refine zb_newI hX (N := 3) (by decide) (by decide) (by decide) (by decide) (by decide) dX1_init_6 (fun a0 => ?_)
  refine zb_dup hX dX1_init_8 rfl ?_
  refine zb_iconst hX (0) dX1_init_9 (by decide) ?_
  refine zb_at (pc' := 10) (k' := 1) (n' := 3) rfl rfl rfl ?_
  refine zb_iconst hX (-1) dX1_init_10 (by decide) ?_
  refine zb_iastL hX dX1_init_11 (by unfold vp_in; decide) ?_
  refine zb_dup hX dX1_init_12 rfl ?_
  refine zb_iconst hX (1) dX1_init_13 (by decide) ?_
  refine zb_iconst hX (-1) dX1_init_14 (by decide) ?_
  refine zb_iastL hX dX1_init_15 (by unfold vp_in; decide) ?_
  refine zb_dup hX dX1_init_16 rfl ?_
  refine zb_iconst hX (2) dX1_init_17 (by decide) ?_
  refine zb_at (pc' := 18) (k' := 1) (n' := 3) rfl rfl rfl ?_
  refine zb_iconst hX (-1) dX1_init_18 (by decide) ?_
  refine zb_iastL hX dX1_init_19 (by unfold vp_in; decide) ?_
  refine zb_cast zb_mv ?_
  refine zb_putF0 hX hin pX1_9 dX1_init_20 (Nat.le_of_ble_eq_true rfl) rfl rfl (fs' := [.int 0, .int 0, .ref a0, .null, .null, .null, .null, .null]) rfl ?_
  refine zb_aload_n hX dX1_init_23 rfl ?_
  refine zb_iconst hX (3) dX1_init_24 (by decide) ?_
  refine zb_newI hX (N := 3) (by decide) (by decide) (by decide) (by decide) (by decide) dX1_init_25 (fun a1 => ?_)
  refine zb_dup hX dX1_init_27 rfl ?_
  refine zb_iconst hX (0) dX1_init_28 (by decide) ?_
  refine zb_at (pc' := 29) (k' := 2) (n' := 6) rfl rfl rfl ?_
  refine zb_iconst hX (-1) dX1_init_29 (by decide) ?_
  refine zb_iastL hX dX1_init_30 (by unfold vp_in; decide) ?_
  refine zb_dup hX dX1_init_31 rfl ?_
  refine zb_iconst hX (1) dX1_init_32 (by decide) ?_
  refine zb_iconst hX (-1) dX1_init_33 (by decide) ?_
  refine zb_iastL hX dX1_init_34 (by unfold vp_in; decide) ?_
  refine zb_dup hX dX1_init_35 rfl ?_
  refine zb_iconst hX (2) dX1_init_36 (by decide) ?_
  refine zb_at (pc' := 37) (k' := 2) (n' := 6) rfl rfl rfl ?_
  refine zb_iconst hX (-1) dX1_init_37 (by decide) ?_
  refine zb_iastL hX dX1_init_38 (by unfold vp_in; decide) ?_
  refine zb_cast zb_mv ?_
  refine zb_putF0 hX hin pX1_15 dX1_init_39 (Nat.le_of_ble_eq_true rfl) rfl rfl (fs' := [.int 0, .int 0, .ref a0, .ref a1, .null, .null, .null, .null]) rfl ?_
  refine zb_aload_n hX dX1_init_42 rfl ?_
  refine zb_bipush hX (64) dX1_init_43 (by decide) ?_
  refine zb_newI hX (N := 64) (by decide) (by decide) (by decide) (by decide) (by decide) dX1_init_45 (fun a2 => ?_)
  refine zb_cast zb_mv ?_
  refine zb_putF0 hX hin pX1_18 dX1_init_47 (Nat.le_of_ble_eq_true rfl) rfl rfl (fs' := [.int 0, .int 0, .ref a0, .ref a1, .ref a2, .null, .null, .null]) rfl ?_
  refine zb_aload_n hX dX1_init_50 rfl ?_
  refine zb_at (pc' := 51) (k' := 3) (n' := 70) rfl rfl rfl ?_
  refine zb_bipush hX (64) dX1_init_51 (by decide) ?_
  refine zb_newI hX (N := 64) (by decide) (by decide) (by decide) (by decide) (by decide) dX1_init_53 (fun a3 => ?_)
  refine zb_cast zb_mv ?_
  refine zb_putF0 hX hin pX1_21 dX1_init_55 (Nat.le_of_ble_eq_true rfl) rfl rfl (fs' := [.int 0, .int 0, .ref a0, .ref a1, .ref a2, .ref a3, .null, .null]) rfl ?_
  refine zb_aload_n hX dX1_init_58 rfl ?_
  refine zb_bipush hX (7) dX1_init_59 (by decide) ?_
  refine zb_newJ hX (N := 7) (by decide) (by decide) (by decide) (by decide) (by decide) dX1_init_61 (fun a4 => ?_)
  refine zb_cast zb_mv ?_
  refine zb_putF0 hX hin pX1_26 dX1_init_63 (Nat.le_of_ble_eq_true rfl) rfl rfl (fs' := [.int 0, .int 0, .ref a0, .ref a1, .ref a2, .ref a3, .ref a4, .null]) rfl ?_
  refine zb_aload_n hX dX1_init_66 rfl ?_
  refine zb_at (pc' := 67) (k' := 5) (n' := 141) rfl rfl rfl ?_
  refine zb_bipush hX (64) dX1_init_67 (by decide) ?_
  refine zb_newJ hX (N := 64) (by decide) (by decide) (by decide) (by decide) (by decide) dX1_init_69 (fun a5 => ?_)
  refine zb_cast zb_mv ?_
  refine zb_putF0 hX hin pX1_30 dX1_init_71 (Nat.le_of_ble_eq_true rfl) rfl rfl (fs' := [.int 0, .int 0, .ref a0, .ref a1, .ref a2, .ref a3, .ref a4, .ref a5]) rfl ?_
  refine zb_return hX dX1_init_74 (by decide) (by decide) ?_
  exact ⟨fun i => [a0, a1, a2, a3, a4, a5].getD i 0, rfl⟩
def cX2 (B : bG) (h : Nat) (q : Nat → Nat) : va_W := [(h, .inr (2, [.ref (q 0), .ref (q 1)])), ((q 0), .inl (B.2 0, 1792, .inl (fun _ => 0))), ((q 1), .inl (B.2 0, 6, .inl (fun _ => 0)))]
theorem bX2_init {B : bG} {z0 a0 : Nat} {w : va_W} {h : Nat} : Cb B z0 a0 1 2 1798 tX2_init [.ref h] (w ++ [(h, .inr (2, [.null, .null]))]) (fun ws => ∃ q : Nat → Nat, ws = w ++ cX2 B h q) := by
  refine Cb.of rfl (by decide) (Nat.le_of_ble_eq_true rfl) (fun X hX hin => ?_)
  refine zb_aload_n hX dX2_init_0 rfl ?_
  refine zb_objInit hX oX2 dX2_init_1 (by decide) (Nat.le_of_ble_eq_true rfl) ?_
  refine zb_aload_n hX dX2_init_4 rfl ?_
  refine zb_sipush hX (1792) dX2_init_5 (by decide) ?_
  refine zb_newI hX (N := 1792) (by decide) (by decide) (by decide) (by decide) (by decide) dX2_init_8 (fun a0 => ?_)
  refine zb_cast zb_mv ?_
  refine zb_putF0 hX hin pX2_11 dX2_init_10 (Nat.le_of_ble_eq_true rfl) rfl rfl (fs' := [.ref a0, .null]) rfl ?_
  refine zb_aload_n hX dX2_init_13 rfl ?_
  refine zb_at (pc' := 14) (k' := 1) (n' := 1792) rfl rfl rfl ?_
  refine zb_bipush hX (6) dX2_init_14 (by decide) ?_
  refine zb_newI hX (N := 6) (by decide) (by decide) (by decide) (by decide) (by decide) dX2_init_16 (fun a1 => ?_)
  refine zb_cast zb_mv ?_
  refine zb_putF0 hX hin pX2_15 dX2_init_18 (Nat.le_of_ble_eq_true rfl) rfl rfl (fs' := [.ref a0, .ref a1]) rfl ?_
  refine zb_return hX dX2_init_21 (by decide) (by decide) ?_
  exact ⟨fun i => [a0, a1].getD i 0, rfl⟩
def cX4 (B : bG) (h : Nat) (q : Nat → Nat) : va_W := [(h, .inr (4, [.int 0, .int (-1), .ref (q 0), .ref (q 1), .ref (q 2), .ref (q 3), .ref (q 4)])), ((q 0), .inl (B.2 0, 24, .inl (fun _ => 0))), ((q 1), .inl (B.2 0, 24, .inl (fun _ => 0))), ((q 2), .inl (B.2 1, 24, .inl (fun _ => 0))), ((q 3), .inl (B.2 0, 24, .inl (fun _ => 0))), ((q 4), .inl (B.2 1, 24, .inl (fun _ => 0)))]
theorem bX4_init {B : bG} {z0 a0 : Nat} {w : va_W} {h : Nat} : Cb B z0 a0 1 5 120 tX4_init [.ref h] (w ++ [(h, .inr (4, [.int 0, .int 0, .null, .null, .null, .null, .null]))]) (fun ws => ∃ q : Nat → Nat, ws = w ++ cX4 B h q) := by
  refine Cb.of rfl (by decide) (Nat.le_of_ble_eq_true rfl) (fun X hX hin => ?_)
  refine zb_aload_n hX dX4_init_0 rfl ?_
  refine zb_objInit hX oX4 dX4_init_1 (by decide) (Nat.le_of_ble_eq_true rfl) ?_
  refine zb_aload_n hX dX4_init_4 rfl ?_
  refine zb_iconst hX (-1) dX4_init_5 (by decide) ?_
  refine zb_put0 hX pX4_9 dX4_init_6 (Nat.le_of_ble_eq_true rfl) rfl rfl (fs' := [.int 0, .int (-1), .null, .null, .null, .null, .null]) rfl ?_
  refine zb_aload_n hX dX4_init_9 rfl ?_
  refine zb_bipush hX (24) dX4_init_10 (by decide) ?_
  refine zb_at (pc' := 12) (k' := 0) (n' := 0) rfl rfl rfl ?_
  refine zb_newI hX (N := 24) (by decide) (by decide) (by decide) (by decide) (by decide) dX4_init_12 (fun a0 => ?_)
  refine zb_cast zb_mv ?_
  refine zb_putF0 hX hin pX4_15 dX4_init_14 (Nat.le_of_ble_eq_true rfl) rfl rfl (fs' := [.int 0, .int (-1), .ref a0, .null, .null, .null, .null]) rfl ?_
  refine zb_aload_n hX dX4_init_17 rfl ?_
  refine zb_bipush hX (24) dX4_init_18 (by decide) ?_
  refine zb_newI hX (N := 24) (by decide) (by decide) (by decide) (by decide) (by decide) dX4_init_20 (fun a1 => ?_)
  refine zb_cast zb_mv ?_
  refine zb_putF0 hX hin pX4_19 dX4_init_22 (Nat.le_of_ble_eq_true rfl) rfl rfl (fs' := [.int 0, .int (-1), .ref a0, .ref a1, .null, .null, .null]) rfl ?_
  refine zb_aload_n hX dX4_init_25 rfl ?_
  refine zb_bipush hX (24) dX4_init_26 (by decide) ?_
  refine zb_at (pc' := 28) (k' := 2) (n' := 48) rfl rfl rfl ?_
  refine zb_newZ hX (N := 24) (by decide) (by decide) (by decide) (by decide) (by decide) dX4_init_28 (fun a2 => ?_)
  refine zb_cast zb_mv ?_
  refine zb_putF0 hX hin pX4_22 dX4_init_30 (Nat.le_of_ble_eq_true rfl) rfl rfl (fs' := [.int 0, .int (-1), .ref a0, .ref a1, .ref a2, .null, .null]) rfl ?_
  refine zb_aload_n hX dX4_init_33 rfl ?_
  refine zb_bipush hX (24) dX4_init_34 (by decide) ?_
  refine zb_newI hX (N := 24) (by decide) (by decide) (by decide) (by decide) (by decide) dX4_init_36 (fun a3 => ?_)
  refine zb_cast zb_mv ?_
  refine zb_putF0 hX hin pX4_26 dX4_init_38 (Nat.le_of_ble_eq_true rfl) rfl rfl (fs' := [.int 0, .int (-1), .ref a0, .ref a1, .ref a2, .ref a3, .null]) rfl ?_
  refine zb_aload_n hX dX4_init_41 rfl ?_
  refine zb_bipush hX (24) dX4_init_42 (by decide) ?_
  refine zb_at (pc' := 44) (k' := 4) (n' := 96) rfl rfl rfl ?_
  refine zb_newZ hX (N := 24) (by decide) (by decide) (by decide) (by decide) (by decide) dX4_init_44 (fun a4 => ?_)
  refine zb_cast zb_mv ?_
  refine zb_putF0 hX hin pX4_29 dX4_init_46 (Nat.le_of_ble_eq_true rfl) rfl rfl (fs' := [.int 0, .int (-1), .ref a0, .ref a1, .ref a2, .ref a3, .ref a4]) rfl ?_
  refine zb_return hX dX4_init_49 (by decide) (by decide) ?_
  exact ⟨fun i => [a0, a1, a2, a3, a4].getD i 0, rfl⟩
def cX7 (B : bG) (h : Nat) (q : Nat → Nat) : va_W := [(h, .inr (6, [.ref (q 0), .int 0, .int 0, .int 0, .ref (q 1), .ref (q 2), .ref (q 3)])), ((q 0), .inl (B.2 2, 0, .inl (fun _ => 0))), ((q 1), .inl (B.2 0, 701, .inl (fun _ => 0))), ((q 2), .inl (B.2 0, 701, .inl (fun _ => 0))), ((q 3), .inl (B.2 0, 701, .inl (fun _ => 0)))]
theorem bX7_init {B : bG} {z0 a0 : Nat} {w : va_W} {h : Nat} : Cb B z0 a0 1 4 2103 tX7_init [.ref h] (w ++ [(h, .inr (6, [.null, .int 0, .int 0, .int 0, .null, .null, .null]))]) (fun ws => ∃ q : Nat → Nat, ws = w ++ cX7 B h q) := by
  refine Cb.of rfl (by decide) (Nat.le_of_ble_eq_true rfl) (fun X hX hin => ?_)
  refine zb_aload_n hX dX7_init_0 rfl ?_
  refine zb_objInit hX oX7 dX7_init_1 (by decide) (Nat.le_of_ble_eq_true rfl) ?_
  refine zb_aload_n hX dX7_init_4 rfl ?_
  refine zb_iconst hX (0) dX7_init_5 (by decide) ?_
  refine zb_newB hX (N := 0) (by decide) (by decide) (by decide) (by decide) (by decide) dX7_init_6 (fun a0 => ?_)
  refine zb_cast zb_mv ?_
  refine zb_put0 hX pX7_9 dX7_init_8 (Nat.le_of_ble_eq_true rfl) rfl rfl (fs' := [.ref a0, .int 0, .int 0, .int 0, .null, .null, .null]) rfl ?_
  refine zb_aload_n hX dX7_init_11 rfl ?_
  refine zb_at (pc' := 12) (k' := 1) (n' := 0) rfl rfl rfl ?_
  refine zb_sipush hX (701) dX7_init_12 (by decide) ?_
  refine zb_newI hX (N := 701) (by decide) (by decide) (by decide) (by decide) (by decide) dX7_init_15 (fun a1 => ?_)
  refine zb_cast zb_mv ?_
  refine zb_putF0 hX hin pX7_15 dX7_init_17 (Nat.le_of_ble_eq_true rfl) rfl rfl (fs' := [.ref a0, .int 0, .int 0, .int 0, .ref a1, .null, .null]) rfl ?_
  refine zb_aload_n hX dX7_init_20 rfl ?_
  refine zb_sipush hX (701) dX7_init_21 (by decide) ?_
  refine zb_newI hX (N := 701) (by decide) (by decide) (by decide) (by decide) (by decide) dX7_init_24 (fun a2 => ?_)
  refine zb_cast zb_mv ?_
  refine zb_putF0 hX hin pX7_19 dX7_init_26 (Nat.le_of_ble_eq_true rfl) rfl rfl (fs' := [.ref a0, .int 0, .int 0, .int 0, .ref a1, .ref a2, .null]) rfl ?_
  refine zb_aload_n hX dX7_init_29 rfl ?_
  refine zb_at (pc' := 30) (k' := 3) (n' := 1402) rfl rfl rfl ?_
  refine zb_sipush hX (701) dX7_init_30 (by decide) ?_
  refine zb_newI hX (N := 701) (by decide) (by decide) (by decide) (by decide) (by decide) dX7_init_33 (fun a3 => ?_)
  refine zb_cast zb_mv ?_
  refine zb_putF0 hX hin pX7_22 dX7_init_35 (Nat.le_of_ble_eq_true rfl) rfl rfl (fs' := [.ref a0, .int 0, .int 0, .int 0, .ref a1, .ref a2, .ref a3]) rfl ?_
  refine zb_return hX dX7_init_38 (by decide) (by decide) ?_
  exact ⟨fun i => [a0, a1, a2, a3].getD i 0, rfl⟩
def cX3 (B : bG) (h : Nat) (q : Nat → Nat) : va_W := [(h, .inr (3, [.int 0, .ref (q 0), .ref (q 1), .ref (q 2), .ref (q 3), .int 0, .ref (q 4), .ref (q 5), .ref (q 6), .ref (q 7), .int 0, .ref (q 8), .ref (q 9), .ref (q 10), .ref (q 11), .ref (q 12), .ref (q 13)])), ((q 0), .inl (B.2 0, 6, .inl (fun _ => 0))), ((q 1), .inl (B.2 0, 6, .inl (fun _ => 0))), ((q 2), .inl (B.2 0, 6, .inl (fun _ => 0))), ((q 3), .inl (B.2 0, 6, .inl (fun _ => 0))), ((q 4), .inl (B.2 0, 8, .inl (fun _ => 0))), ((q 5), .inl (B.2 0, 8, .inl (fun _ => 0))), ((q 6), .inl (B.2 0, 8, .inl (fun _ => 0))), ((q 7), .inl (B.2 0, 8, .inl (fun _ => 0))), ((q 8), .inl (B.2 0, 10, .inl (fun _ => 0))), ((q 9), .inl (B.2 0, 10, .inl (fun _ => 0))), ((q 10), .inl (B.2 0, 10, .inl (fun _ => 0))), ((q 11), .inl (B.2 0, 5, .inl (va_cpy zc0 (fun _ => 0) 0 0 5))), ((q 12), .inl (B.2 1, 5, .inl (fun _ => 0))), ((q 13), .inr (1, [.int 0, .int 0, .ref (q 14), .ref (q 15), .ref (q 16), .ref (q 17), .ref (q 18), .ref (q 19)])), ((q 14), .inl (B.2 0, 3, .inl (upd (upd (upd (fun _ => 0) 0 (-1)) 1 (-1)) 2 (-1)))), ((q 15), .inl (B.2 0, 3, .inl (upd (upd (upd (fun _ => 0) 0 (-1)) 1 (-1)) 2 (-1)))), ((q 16), .inl (B.2 0, 64, .inl (fun _ => 0))), ((q 17), .inl (B.2 0, 64, .inl (fun _ => 0))), ((q 18), .inl (B.2 3, 7, .inr (.inl (fun _ => 0)))), ((q 19), .inl (B.2 3, 64, .inr (.inl (fun _ => 0))))]
theorem bX3_init {B : bG} {z0 a0 : Nat} {w : va_W} {h : Nat} : Cb B z0 a0 2 20 309 tX3_init [.ref h] (w ++ [(h, .inr (3, [.int 0, .null, .null, .null, .null, .int 0, .null, .null, .null, .null, .int 0, .null, .null, .null, .null, .null, .null]))]) (fun ws => ∃ q : Nat → Nat, ws = w ++ cX3 B h q) := by
  refine Cb.of rfl (by decide) (Nat.le_of_ble_eq_true rfl) (fun X hX hin => ?_)
  refine zb_aload_n hX dX3_init_0 rfl ?_
  refine zb_objInit hX oX3 dX3_init_1 (by decide) (Nat.le_of_ble_eq_true rfl) ?_
  refine zb_aload_n hX dX3_init_4 rfl ?_
  refine zb_bipush hX (6) dX3_init_5 (by decide) ?_
  refine zb_newI hX (N := 6) (by decide) (by decide) (by decide) (by decide) (by decide) dX3_init_7 (fun a0 => ?_)
  refine zb_cast zb_mv ?_
  refine zb_putF0 hX hin pX3_9 dX3_init_9 (Nat.le_of_ble_eq_true rfl) rfl rfl (fs' := [.int 0, .ref a0, .null, .null, .null, .int 0, .null, .null, .null, .null, .int 0, .null, .null, .null, .null, .null, .null]) rfl ?_
  refine zb_aload_n hX dX3_init_12 rfl ?_
  refine zb_at (pc' := 13) (k' := 1) (n' := 6) rfl rfl rfl ?_
  refine zb_bipush hX (6) dX3_init_13 (by decide) ?_
  refine zb_newI hX (N := 6) (by decide) (by decide) (by decide) (by decide) (by decide) dX3_init_15 (fun a1 => ?_)
  refine zb_cast zb_mv ?_
  refine zb_putF0 hX hin pX3_15 dX3_init_17 (Nat.le_of_ble_eq_true rfl) rfl rfl (fs' := [.int 0, .ref a0, .ref a1, .null, .null, .int 0, .null, .null, .null, .null, .int 0, .null, .null, .null, .null, .null, .null]) rfl ?_
  refine zb_aload_n hX dX3_init_20 rfl ?_
  refine zb_bipush hX (6) dX3_init_21 (by decide) ?_
  refine zb_newI hX (N := 6) (by decide) (by decide) (by decide) (by decide) (by decide) dX3_init_23 (fun a2 => ?_)
  refine zb_cast zb_mv ?_
  refine zb_putF0 hX hin pX3_18 dX3_init_25 (Nat.le_of_ble_eq_true rfl) rfl rfl (fs' := [.int 0, .ref a0, .ref a1, .ref a2, .null, .int 0, .null, .null, .null, .null, .int 0, .null, .null, .null, .null, .null, .null]) rfl ?_
  refine zb_aload_n hX dX3_init_28 rfl ?_
  refine zb_at (pc' := 29) (k' := 3) (n' := 18) rfl rfl rfl ?_
  refine zb_bipush hX (6) dX3_init_29 (by decide) ?_
  refine zb_newI hX (N := 6) (by decide) (by decide) (by decide) (by decide) (by decide) dX3_init_31 (fun a3 => ?_)
  refine zb_cast zb_mv ?_
  refine zb_putF0 hX hin pX3_21 dX3_init_33 (Nat.le_of_ble_eq_true rfl) rfl rfl (fs' := [.int 0, .ref a0, .ref a1, .ref a2, .ref a3, .int 0, .null, .null, .null, .null, .int 0, .null, .null, .null, .null, .null, .null]) rfl ?_
  refine zb_aload_n hX dX3_init_36 rfl ?_
  refine zb_bipush hX (8) dX3_init_37 (by decide) ?_
  refine zb_newI hX (N := 8) (by decide) (by decide) (by decide) (by decide) (by decide) dX3_init_39 (fun a4 => ?_)
  refine zb_cast zb_mv ?_
  refine zb_putF0 hX hin pX3_24 dX3_init_41 (Nat.le_of_ble_eq_true rfl) rfl rfl (fs' := [.int 0, .ref a0, .ref a1, .ref a2, .ref a3, .int 0, .ref a4, .null, .null, .null, .int 0, .null, .null, .null, .null, .null, .null]) rfl ?_
  refine zb_aload_n hX dX3_init_44 rfl ?_
  refine zb_at (pc' := 45) (k' := 5) (n' := 32) rfl rfl rfl ?_
  refine zb_bipush hX (8) dX3_init_45 (by decide) ?_
  refine zb_newI hX (N := 8) (by decide) (by decide) (by decide) (by decide) (by decide) dX3_init_47 (fun a5 => ?_)
  refine zb_cast zb_mv ?_
  refine zb_putF0 hX hin pX3_27 dX3_init_49 (Nat.le_of_ble_eq_true rfl) rfl rfl (fs' := [.int 0, .ref a0, .ref a1, .ref a2, .ref a3, .int 0, .ref a4, .ref a5, .null, .null, .int 0, .null, .null, .null, .null, .null, .null]) rfl ?_
  refine zb_aload_n hX dX3_init_52 rfl ?_
  refine zb_bipush hX (8) dX3_init_53 (by decide) ?_
  refine zb_newI hX (N := 8) (by decide) (by decide) (by decide) (by decide) (by decide) dX3_init_55 (fun a6 => ?_)
  refine zb_cast zb_mv ?_
  refine zb_putF0 hX hin pX3_30 dX3_init_57 (Nat.le_of_ble_eq_true rfl) rfl rfl (fs' := [.int 0, .ref a0, .ref a1, .ref a2, .ref a3, .int 0, .ref a4, .ref a5, .ref a6, .null, .int 0, .null, .null, .null, .null, .null, .null]) rfl ?_
  refine zb_aload_n hX dX3_init_60 rfl ?_
  refine zb_at (pc' := 61) (k' := 7) (n' := 48) rfl rfl rfl ?_
  refine zb_bipush hX (8) dX3_init_61 (by decide) ?_
  refine zb_newI hX (N := 8) (by decide) (by decide) (by decide) (by decide) (by decide) dX3_init_63 (fun a7 => ?_)
  refine zb_cast zb_mv ?_
  refine zb_putF0 hX hin pX3_33 dX3_init_65 (Nat.le_of_ble_eq_true rfl) rfl rfl (fs' := [.int 0, .ref a0, .ref a1, .ref a2, .ref a3, .int 0, .ref a4, .ref a5, .ref a6, .ref a7, .int 0, .null, .null, .null, .null, .null, .null]) rfl ?_
  refine zb_aload_n hX dX3_init_68 rfl ?_
  refine zb_bipush hX (10) dX3_init_69 (by decide) ?_
  refine zb_newI hX (N := 10) (by decide) (by decide) (by decide) (by decide) (by decide) dX3_init_71 (fun a8 => ?_)
  refine zb_cast zb_mv ?_
  refine zb_putF0 hX hin pX3_36 dX3_init_73 (Nat.le_of_ble_eq_true rfl) rfl rfl (fs' := [.int 0, .ref a0, .ref a1, .ref a2, .ref a3, .int 0, .ref a4, .ref a5, .ref a6, .ref a7, .int 0, .ref a8, .null, .null, .null, .null, .null]) rfl ?_
  refine zb_aload_n hX dX3_init_76 rfl ?_
  refine zb_at (pc' := 77) (k' := 9) (n' := 66) rfl rfl rfl ?_
  refine zb_bipush hX (10) dX3_init_77 (by decide) ?_
  refine zb_newI hX (N := 10) (by decide) (by decide) (by decide) (by decide) (by decide) dX3_init_79 (fun a9 => ?_)
  refine zb_cast zb_mv ?_
  refine zb_putF0 hX hin pX3_39 dX3_init_81 (Nat.le_of_ble_eq_true rfl) rfl rfl (fs' := [.int 0, .ref a0, .ref a1, .ref a2, .ref a3, .int 0, .ref a4, .ref a5, .ref a6, .ref a7, .int 0, .ref a8, .ref a9, .null, .null, .null, .null]) rfl ?_
  refine zb_aload_n hX dX3_init_84 rfl ?_
  refine zb_bipush hX (10) dX3_init_85 (by decide) ?_
  refine zb_newI hX (N := 10) (by decide) (by decide) (by decide) (by decide) (by decide) dX3_init_87 (fun a10 => ?_)
  refine zb_cast zb_mv ?_
  refine zb_putF0 hX hin pX3_42 dX3_init_89 (Nat.le_of_ble_eq_true rfl) rfl rfl (fs' := [.int 0, .ref a0, .ref a1, .ref a2, .ref a3, .int 0, .ref a4, .ref a5, .ref a6, .ref a7, .int 0, .ref a8, .ref a9, .ref a10, .null, .null, .null]) rfl ?_
  refine zb_aload_n hX dX3_init_92 rfl ?_
  refine zb_at (pc' := 93) (k' := 11) (n' := 86) rfl rfl rfl ?_
  refine zb_iconst hX (5) dX3_init_93 (by decide) ?_
  refine zb_newI hX (N := 5) (by decide) (by decide) (by decide) (by decide) (by decide) dX3_init_94 (fun a11 => ?_)
  refine zb_cast zb_mv ?_
  refine zb_putF0 hX hin pX3_45 dX3_init_96 (Nat.le_of_ble_eq_true rfl) rfl rfl (fs' := [.int 0, .ref a0, .ref a1, .ref a2, .ref a3, .int 0, .ref a4, .ref a5, .ref a6, .ref a7, .int 0, .ref a8, .ref a9, .ref a10, .ref a11, .null, .null]) rfl ?_
  refine zb_aload_n hX dX3_init_99 rfl ?_
  refine zb_iconst hX (5) dX3_init_100 (by decide) ?_
  refine zb_newZ hX (N := 5) (by decide) (by decide) (by decide) (by decide) (by decide) dX3_init_101 (fun a12 => ?_)
  refine zb_cast zb_mv ?_
  refine zb_putF0 hX hin pX3_48 dX3_init_103 (Nat.le_of_ble_eq_true rfl) rfl rfl (fs' := [.int 0, .ref a0, .ref a1, .ref a2, .ref a3, .int 0, .ref a4, .ref a5, .ref a6, .ref a7, .int 0, .ref a8, .ref a9, .ref a10, .ref a11, .ref a12, .null]) rfl ?_
  refine zb_aload_n hX dX3_init_106 rfl ?_
  refine zb_at (pc' := 107) (k' := 13) (n' := 96) rfl rfl rfl ?_
  refine zb_new hX (C := RX1) (T := TX1) (N := 8) (ci := 1) (ty0 := tyX1) (fs := [.int 0, .int 0, .null, .null, .null, .null, .null, .null]) rfl uX1 tyX1_ok ncX3_52 niX1 naX1 ndX1 (by decide) (by decide) dX3_init_107 (fun a13 => ?_)
  refine zb_dup hX dX3_init_110 rfl ?_
  refine zb_callIN hX iX1 (host := "ColdFeet") (by decide +kernel) dX3_init_111 (bX1_init) (by decide) (As := []) rfl rfl (Nat.le_of_ble_eq_true rfl) (by decide) (by decide) (fun ws14 e14 => ?_)
  obtain ⟨r14, rfl⟩ := e14
  refine zb_cast zb_mv ?_
  refine zb_putF0 hX hin pX3_55 dX3_init_114 (Nat.le_of_ble_eq_true rfl) rfl rfl (fs' := [.int 0, .ref a0, .ref a1, .ref a2, .ref a3, .int 0, .ref a4, .ref a5, .ref a6, .ref a7, .int 0, .ref a8, .ref a9, .ref a10, .ref a11, .ref a12, .ref a13]) rfl ?_
  refine zb_gets hX dX3_init_117 (by decide) ?_
  refine zb_iconst hX (0) dX3_init_120 (by decide) ?_
  refine zb_aload_n hX dX3_init_121 rfl ?_
  refine zb_get0 hX fX3_45 dX3_init_122 rfl ?_
  refine zb_at (pc' := 125) (k' := 20) (n' := 309) rfl rfl rfl ?_
  refine zb_iconst hX (0) dX3_init_125 (by decide) ?_
  refine zb_iconst hX (5) dX3_init_126 (by decide) ?_
  refine zb_copy hX (zin (tb1 (List.mem_of_getElem? (i := 80) (by decide +kernel))) rfl) dX3_init_127 (by decide) (Nat.le_of_ble_eq_true rfl) (w.length + 12) (zb_hj rfl) zb_sj ?_
  refine zb_return hX dX3_init_130 (by decide) (by decide) ?_
  exact ⟨fun i => [a0, a1, a2, a3, a4, a5, a6, a7, a8, a9, a10, a11, a12, a13, r14 0, r14 1, r14 2, r14 3, r14 4, r14 5].getD i 0, rfl⟩
def cX5 (B : bG) (h p : Nat) (q : Nat → Nat) : va_W := [(h, .inr (5, [.int 0, .int (-1), .ref (q 0), .ref p, .int 0, .int 0, .int 0, .int 0, .ref (q 5), .ref (q 6), .int 0, .int 0, .int 0, .int 0])), ((q 0), .inr (6, [.ref (q 1), .int 0, .int 0, .int 0, .ref (q 2), .ref (q 3), .ref (q 4)])), ((q 1), .inl (B.2 2, 0, .inl (fun _ => 0))), ((q 2), .inl (B.2 0, 701, .inl (fun _ => 0))), ((q 3), .inl (B.2 0, 701, .inl (fun _ => 0))), ((q 4), .inl (B.2 0, 701, .inl (fun _ => 0))), ((q 5), .inl (B.2 0, 72, .inl (fun _ => 0))), ((q 6), .inl (B.2 0, 72, .inl (fun _ => 0)))]
theorem bX5_init {B : bG} {z0 a0 : Nat} {w : va_W} {h p : Nat} : Cb B z0 a0 2 7 2254 tX5_init [.ref h, .ref p] (w ++ [(h, .inr (5, [.int 0, .int 0, .null, .null, .int 0, .int 0, .int 0, .int 0, .null, .null, .int 0, .int 0, .int 0, .int 0]))]) (fun ws => ∃ q : Nat → Nat, ws = w ++ cX5 B h p q) := by
  refine Cb.of rfl (by decide) (Nat.le_of_ble_eq_true rfl) (fun X hX hin => ?_)
  refine zb_aload_n hX dX5_init_0 rfl ?_
  refine zb_objInit hX oX5 dX5_init_1 (by decide) (Nat.le_of_ble_eq_true rfl) ?_
  refine zb_aload_n hX dX5_init_4 rfl ?_
  refine zb_iconst hX (-1) dX5_init_5 (by decide) ?_
  refine zb_put0 hX pX5_9 dX5_init_6 (Nat.le_of_ble_eq_true rfl) rfl rfl (fs' := [.int 0, .int (-1), .null, .null, .int 0, .int 0, .int 0, .int 0, .null, .null, .int 0, .int 0, .int 0, .int 0]) rfl ?_
  refine zb_aload_n hX dX5_init_9 rfl ?_
  refine zb_new hX (C := RX7) (T := TX7) (N := 7) (ci := 6) (ty0 := tyX7) (fs := [.null, .int 0, .int 0, .int 0, .null, .null, .null]) rfl uX7 tyX7_ok ncX5_15 niX7 naX7 ndX7 (by decide) (by decide) dX5_init_10 (fun a0 => ?_)
  refine zb_at (pc' := 13) (k' := 1) (n' := 7) rfl rfl rfl ?_
  refine zb_dup hX dX5_init_13 rfl ?_
  refine zb_callIN hX iX7 (host := "ColdFeet") (by decide +kernel) dX5_init_14 (bX7_init) (by decide) (As := []) rfl rfl (Nat.le_of_ble_eq_true rfl) (by decide) (by decide) (fun ws1 e1 => ?_)
  obtain ⟨r1, rfl⟩ := e1
  refine zb_cast zb_mv ?_
  refine zb_putF0 hX hin pX5_18 dX5_init_17 (Nat.le_of_ble_eq_true rfl) rfl rfl (fs' := [.int 0, .int (-1), .ref a0, .null, .int 0, .int 0, .int 0, .int 0, .null, .null, .int 0, .int 0, .int 0, .int 0]) rfl ?_
  refine zb_aload_n hX dX5_init_20 rfl ?_
  refine zb_bipush hX (72) dX5_init_21 (by decide) ?_
  refine zb_newI hX (N := 72) (by decide) (by decide) (by decide) (by decide) (by decide) dX5_init_23 (fun a1 => ?_)
  refine zb_cast zb_mv ?_
  refine zb_putF0 hX hin pX5_22 dX5_init_25 (Nat.le_of_ble_eq_true rfl) rfl rfl (fs' := [.int 0, .int (-1), .ref a0, .null, .int 0, .int 0, .int 0, .int 0, .ref a1, .null, .int 0, .int 0, .int 0, .int 0]) rfl ?_
  refine zb_aload_n hX dX5_init_28 rfl ?_
  refine zb_at (pc' := 29) (k' := 6) (n' := 2182) rfl rfl rfl ?_
  refine zb_bipush hX (72) dX5_init_29 (by decide) ?_
  refine zb_newI hX (N := 72) (by decide) (by decide) (by decide) (by decide) (by decide) dX5_init_31 (fun a2 => ?_)
  refine zb_cast zb_mv ?_
  refine zb_putF0 hX hin pX5_26 dX5_init_33 (Nat.le_of_ble_eq_true rfl) rfl rfl (fs' := [.int 0, .int (-1), .ref a0, .null, .int 0, .int 0, .int 0, .int 0, .ref a1, .ref a2, .int 0, .int 0, .int 0, .int 0]) rfl ?_
  refine zb_aload_n hX dX5_init_36 rfl ?_
  refine zb_aload_n hX dX5_init_37 rfl ?_
  refine zb_put0 hX pX5_29 dX5_init_38 (Nat.le_of_ble_eq_true rfl) rfl rfl (fs' := [.int 0, .int (-1), .ref a0, .ref p, .int 0, .int 0, .int 0, .int 0, .ref a1, .ref a2, .int 0, .int 0, .int 0, .int 0]) rfl ?_
  refine zb_return hX dX5_init_41 (by decide) (by decide) ?_
  exact ⟨fun i => [a0, r1 0, r1 1, r1 2, r1 3, a1, a2].getD i 0, rfl⟩
