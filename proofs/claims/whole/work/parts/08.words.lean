theorem tb1 {w : Cond} (h : w ∈ tables_1_1) : w ∈ lw_tbl := List.mem_append_right _ (List.mem_append_left _ h)
theorem tb2 {w : Cond} (h : w ∈ tables_1_2) : w ∈ lw_tbl := List.mem_append_right _ (List.mem_append_right _ (List.mem_append_left _ h))
theorem tb3 {w : Cond} (h : w ∈ tables_1_3) : w ∈ lw_tbl := List.mem_append_right _ (List.mem_append_right _ (List.mem_append_right _ (List.mem_append_left _ h)))
theorem tb4 {w : Cond} (h : w ∈ tables_1_4) : w ∈ lw_tbl := List.mem_append_right _ (List.mem_append_right _ (List.mem_append_right _ (List.mem_append_right _ (List.mem_append_left _ h))))
theorem tb5 {w : Cond} (h : w ∈ tables_1_5) : w ∈ lw_tbl := List.mem_append_right _ (List.mem_append_right _ (List.mem_append_right _ (List.mem_append_right _ (List.mem_append_right _ (List.mem_append_left _ h)))))
theorem tb6 {w : Cond} (h : w ∈ tables_1_6) : w ∈ lw_tbl := List.mem_append_right _ (List.mem_append_right _ (List.mem_append_right _ (List.mem_append_right _ (List.mem_append_right _ (List.mem_append_right _ (List.mem_append_left _ h))))))
theorem tb7 {w : Cond} (h : w ∈ tables_1_7) : w ∈ lw_tbl := List.mem_append_right _ (List.mem_append_right _ (List.mem_append_right _ (List.mem_append_right _ (List.mem_append_right _ (List.mem_append_right _ (List.mem_append_right _ (List.mem_append_left _ h)))))))
theorem tb8 {w : Cond} (h : w ∈ tables_1_8) : w ∈ lw_tbl := List.mem_append_right _ (List.mem_append_right _ (List.mem_append_right _ (List.mem_append_right _ (List.mem_append_right _ (List.mem_append_right _ (List.mem_append_right _ (List.mem_append_right _ (h))))))))
theorem uX0 : ∀ w ∈ u_ws RX0 TX0 4, w ∈ zWS := fun w hw => zin ((by decide +kernel : ∀ w ∈ u_ws RX0 TX0 4, w ∈ lw_tbl) w hw) ((by decide +kernel : ∀ w ∈ u_ws RX0 TX0 4, goodWord w = true) w hw)
theorem uX1 : ∀ w ∈ u_ws RX1 TX1 8, w ∈ zWS := fun w hw => zin ((by decide +kernel : ∀ w ∈ u_ws RX1 TX1 8, w ∈ lw_tbl) w hw) ((by decide +kernel : ∀ w ∈ u_ws RX1 TX1 8, goodWord w = true) w hw)
theorem uX2 : ∀ w ∈ u_ws RX2 TX2 2, w ∈ zWS := fun w hw => zin ((by decide +kernel : ∀ w ∈ u_ws RX2 TX2 2, w ∈ lw_tbl) w hw) ((by decide +kernel : ∀ w ∈ u_ws RX2 TX2 2, goodWord w = true) w hw)
theorem uX3 : ∀ w ∈ u_ws RX3 TX3 17, w ∈ zWS := fun w hw => zin ((by decide +kernel : ∀ w ∈ u_ws RX3 TX3 17, w ∈ lw_tbl) w hw) ((by decide +kernel : ∀ w ∈ u_ws RX3 TX3 17, goodWord w = true) w hw)
theorem uX4 : ∀ w ∈ u_ws RX4 TX4 7, w ∈ zWS := fun w hw => zin ((by decide +kernel : ∀ w ∈ u_ws RX4 TX4 7, w ∈ lw_tbl) w hw) ((by decide +kernel : ∀ w ∈ u_ws RX4 TX4 7, goodWord w = true) w hw)
theorem uX5 : ∀ w ∈ u_ws RX5 TX5 14, w ∈ zWS := fun w hw => zin ((by decide +kernel : ∀ w ∈ u_ws RX5 TX5 14, w ∈ lw_tbl) w hw) ((by decide +kernel : ∀ w ∈ u_ws RX5 TX5 14, goodWord w = true) w hw)
theorem uX7 : ∀ w ∈ u_ws RX7 TX7 7, w ∈ zWS := fun w hw => zin ((by decide +kernel : ∀ w ∈ u_ws RX7 TX7 7, w ∈ lw_tbl) w hw) ((by decide +kernel : ∀ w ∈ u_ws RX7 TX7 7, goodWord w = true) w hw)
theorem uX8 : ∀ w ∈ u_ws RX8 TX8 16, w ∈ zWS := fun w hw => zin ((by decide +kernel : ∀ w ∈ u_ws RX8 TX8 16, w ∈ lw_tbl) w hw) ((by decide +kernel : ∀ w ∈ u_ws RX8 TX8 16, goodWord w = true) w hw)
theorem uX9 : ∀ w ∈ u_ws RX9 TX9 17, w ∈ zWS := fun w hw => zin ((by decide +kernel : ∀ w ∈ u_ws RX9 TX9 17, w ∈ lw_tbl) w hw) ((by decide +kernel : ∀ w ∈ u_ws RX9 TX9 17, goodWord w = true) w hw)
theorem uX10 : ∀ w ∈ u_ws RX10 TX10 68, w ∈ zWS := fun w hw => zin ((by decide +kernel : ∀ w ∈ u_ws RX10 TX10 68, w ∈ lw_tbl) w hw) ((by decide +kernel : ∀ w ∈ u_ws RX10 TX10 68, goodWord w = true) w hw)
theorem lL_17 : Cond.methodLink RL 17 yX9_init ∈ zWS := zin (tb1 (List.mem_of_getElem? (i := 25) (by decide +kernel))) rfl
theorem lX9_17 : Cond.methodLink RX9 17 yX3_init ∈ zWS := zin (tb1 (List.mem_of_getElem? (i := 33) (by decide +kernel))) rfl
theorem fX1_33 : zFld RX1 33 1 0 := ⟨RX1, TX1, 8, rfl, by decide, uX1, zin (tb1 (List.mem_of_getElem? (i := 43) (by decide +kernel))) rfl⟩
theorem pX1_33 : zFldP RX1 33 1 0 (.int) := ⟨RX1, TX1, 8, tyX1, ⟨rfl, by decide, uX1, zin (tb1 (List.mem_of_getElem? (i := 43) (by decide +kernel))) rfl⟩, tyX1_ok, nmX1, rfl, by decide +kernel⟩
theorem fX9_212 : zFld RX9 212 1 0 := ⟨RX1, TX1, 8, rfl, by decide, uX1, zin (tb1 (List.mem_of_getElem? (i := 44) (by decide +kernel))) rfl⟩
theorem pX9_212 : zFldP RX9 212 1 0 (.int) := ⟨RX1, TX1, 8, tyX1, ⟨rfl, by decide, uX1, zin (tb1 (List.mem_of_getElem? (i := 44) (by decide +kernel))) rfl⟩, tyX1_ok, nmX1, rfl, by decide +kernel⟩
theorem fX5_203 : zFld RX5 203 1 0 := ⟨RX1, TX1, 8, rfl, by decide, uX1, zin (tb1 (List.mem_of_getElem? (i := 45) (by decide +kernel))) rfl⟩
theorem pX5_203 : zFldP RX5 203 1 0 (.int) := ⟨RX1, TX1, 8, tyX1, ⟨rfl, by decide, uX1, zin (tb1 (List.mem_of_getElem? (i := 45) (by decide +kernel))) rfl⟩, tyX1_ok, nmX1, rfl, by decide +kernel⟩
theorem fX1_37 : zFld RX1 37 1 1 := ⟨RX1, TX1, 8, rfl, by decide, uX1, zin (tb1 (List.mem_of_getElem? (i := 46) (by decide +kernel))) rfl⟩
theorem pX1_37 : zFldP RX1 37 1 1 (.int) := ⟨RX1, TX1, 8, tyX1, ⟨rfl, by decide, uX1, zin (tb1 (List.mem_of_getElem? (i := 46) (by decide +kernel))) rfl⟩, tyX1_ok, nmX1, rfl, by decide +kernel⟩
theorem fX5_173 : zFld RX5 173 1 1 := ⟨RX1, TX1, 8, rfl, by decide, uX1, zin (tb1 (List.mem_of_getElem? (i := 47) (by decide +kernel))) rfl⟩
theorem pX5_173 : zFldP RX5 173 1 1 (.int) := ⟨RX1, TX1, 8, tyX1, ⟨rfl, by decide, uX1, zin (tb1 (List.mem_of_getElem? (i := 47) (by decide +kernel))) rfl⟩, tyX1_ok, nmX1, rfl, by decide +kernel⟩
theorem fX1_9 : zFld RX1 9 1 2 := ⟨RX1, TX1, 8, rfl, by decide, uX1, zin (tb1 (List.mem_of_getElem? (i := 48) (by decide +kernel))) rfl⟩
theorem fX5_168 : zFld RX5 168 1 2 := ⟨RX1, TX1, 8, rfl, by decide, uX1, zin (tb1 (List.mem_of_getElem? (i := 49) (by decide +kernel))) rfl⟩
theorem fX1_15 : zFld RX1 15 1 3 := ⟨RX1, TX1, 8, rfl, by decide, uX1, zin (tb1 (List.mem_of_getElem? (i := 50) (by decide +kernel))) rfl⟩
theorem fX5_191 : zFld RX5 191 1 3 := ⟨RX1, TX1, 8, rfl, by decide, uX1, zin (tb1 (List.mem_of_getElem? (i := 51) (by decide +kernel))) rfl⟩
theorem fX1_18 : zFld RX1 18 1 4 := ⟨RX1, TX1, 8, rfl, by decide, uX1, zin (tb1 (List.mem_of_getElem? (i := 52) (by decide +kernel))) rfl⟩
theorem fX1_21 : zFld RX1 21 1 5 := ⟨RX1, TX1, 8, rfl, by decide, uX1, zin (tb1 (List.mem_of_getElem? (i := 53) (by decide +kernel))) rfl⟩
theorem fX1_26 : zFld RX1 26 1 6 := ⟨RX1, TX1, 8, rfl, by decide, uX1, zin (tb1 (List.mem_of_getElem? (i := 54) (by decide +kernel))) rfl⟩
theorem fX8_104 : zFld RX8 104 1 6 := ⟨RX1, TX1, 8, rfl, by decide, uX1, zin (tb1 (List.mem_of_getElem? (i := 55) (by decide +kernel))) rfl⟩
theorem fX1_30 : zFld RX1 30 1 7 := ⟨RX1, TX1, 8, rfl, by decide, uX1, zin (tb1 (List.mem_of_getElem? (i := 56) (by decide +kernel))) rfl⟩
theorem fX3_68 : zFld RX3 68 3 0 := ⟨RX3, TX3, 17, rfl, by decide, uX3, zin (tb1 (List.mem_of_getElem? (i := 83) (by decide +kernel))) rfl⟩
theorem pX3_68 : zFldP RX3 68 3 0 (.int) := ⟨RX3, TX3, 17, tyX3, ⟨rfl, by decide, uX3, zin (tb1 (List.mem_of_getElem? (i := 83) (by decide +kernel))) rfl⟩, tyX3_ok, nmX3, rfl, by decide +kernel⟩
theorem fX2_24 : zFld RX2 24 3 0 := ⟨RX3, TX3, 17, rfl, by decide, uX3, zin (tb1 (List.mem_of_getElem? (i := 84) (by decide +kernel))) rfl⟩
theorem pX2_24 : zFldP RX2 24 3 0 (.int) := ⟨RX3, TX3, 17, tyX3, ⟨rfl, by decide, uX3, zin (tb1 (List.mem_of_getElem? (i := 84) (by decide +kernel))) rfl⟩, tyX3_ok, nmX3, rfl, by decide +kernel⟩
theorem fX8_83 : zFld RX8 83 3 0 := ⟨RX3, TX3, 17, rfl, by decide, uX3, zin (tb1 (List.mem_of_getElem? (i := 85) (by decide +kernel))) rfl⟩
theorem pX8_83 : zFldP RX8 83 3 0 (.int) := ⟨RX3, TX3, 17, tyX3, ⟨rfl, by decide, uX3, zin (tb1 (List.mem_of_getElem? (i := 85) (by decide +kernel))) rfl⟩, tyX3_ok, nmX3, rfl, by decide +kernel⟩
theorem fX9_116 : zFld RX9 116 3 0 := ⟨RX3, TX3, 17, rfl, by decide, uX3, zin (tb1 (List.mem_of_getElem? (i := 86) (by decide +kernel))) rfl⟩
theorem pX9_116 : zFldP RX9 116 3 0 (.int) := ⟨RX3, TX3, 17, tyX3, ⟨rfl, by decide, uX3, zin (tb1 (List.mem_of_getElem? (i := 86) (by decide +kernel))) rfl⟩, tyX3_ok, nmX3, rfl, by decide +kernel⟩
theorem fX5_104 : zFld RX5 104 3 0 := ⟨RX3, TX3, 17, rfl, by decide, uX3, zin (tb1 (List.mem_of_getElem? (i := 87) (by decide +kernel))) rfl⟩
theorem pX5_104 : zFldP RX5 104 3 0 (.int) := ⟨RX3, TX3, 17, tyX3, ⟨rfl, by decide, uX3, zin (tb1 (List.mem_of_getElem? (i := 87) (by decide +kernel))) rfl⟩, tyX3_ok, nmX3, rfl, by decide +kernel⟩
theorem fX3_9 : zFld RX3 9 3 1 := ⟨RX3, TX3, 17, rfl, by decide, uX3, zin (tb1 (List.mem_of_getElem? (i := 88) (by decide +kernel))) rfl⟩
theorem fX9_113 : zFld RX9 113 3 1 := ⟨RX3, TX3, 17, rfl, by decide, uX3, zin (tb1 (List.mem_of_getElem? (i := 89) (by decide +kernel))) rfl⟩
theorem fX5_107 : zFld RX5 107 3 1 := ⟨RX3, TX3, 17, rfl, by decide, uX3, zin (tb1 (List.mem_of_getElem? (i := 90) (by decide +kernel))) rfl⟩
theorem fX3_15 : zFld RX3 15 3 2 := ⟨RX3, TX3, 17, rfl, by decide, uX3, zin (tb1 (List.mem_of_getElem? (i := 91) (by decide +kernel))) rfl⟩
theorem fX5_118 : zFld RX5 118 3 2 := ⟨RX3, TX3, 17, rfl, by decide, uX3, zin (tb1 (List.mem_of_getElem? (i := 92) (by decide +kernel))) rfl⟩
theorem fX9_140 : zFld RX9 140 3 2 := ⟨RX3, TX3, 17, rfl, by decide, uX3, zin (tb1 (List.mem_of_getElem? (i := 93) (by decide +kernel))) rfl⟩
theorem fX8_110 : zFld RX8 110 3 2 := ⟨RX3, TX3, 17, rfl, by decide, uX3, zin (tb1 (List.mem_of_getElem? (i := 94) (by decide +kernel))) rfl⟩
theorem fX3_18 : zFld RX3 18 3 3 := ⟨RX3, TX3, 17, rfl, by decide, uX3, zin (tb1 (List.mem_of_getElem? (i := 95) (by decide +kernel))) rfl⟩
theorem fX8_48 : zFld RX8 48 3 3 := ⟨RX3, TX3, 17, rfl, by decide, uX3, zin (tb1 (List.mem_of_getElem? (i := 96) (by decide +kernel))) rfl⟩
theorem fX5_121 : zFld RX5 121 3 3 := ⟨RX3, TX3, 17, rfl, by decide, uX3, zin (tb1 (List.mem_of_getElem? (i := 97) (by decide +kernel))) rfl⟩
theorem fX3_21 : zFld RX3 21 3 4 := ⟨RX3, TX3, 17, rfl, by decide, uX3, zin (tb1 (List.mem_of_getElem? (i := 98) (by decide +kernel))) rfl⟩
theorem fX2_70 : zFld RX2 70 3 4 := ⟨RX3, TX3, 17, rfl, by decide, uX3, zin (tb1 (List.mem_of_getElem? (i := 99) (by decide +kernel))) rfl⟩
theorem fX5_124 : zFld RX5 124 3 4 := ⟨RX3, TX3, 17, rfl, by decide, uX3, zin (tb1 (List.mem_of_getElem? (i := 100) (by decide +kernel))) rfl⟩
theorem fX9_146 : zFld RX9 146 3 4 := ⟨RX3, TX3, 17, rfl, by decide, uX3, zin (tb1 (List.mem_of_getElem? (i := 101) (by decide +kernel))) rfl⟩
theorem fX8_113 : zFld RX8 113 3 4 := ⟨RX3, TX3, 17, rfl, by decide, uX3, zin (tb1 (List.mem_of_getElem? (i := 102) (by decide +kernel))) rfl⟩
theorem fX3_72 : zFld RX3 72 3 5 := ⟨RX3, TX3, 17, rfl, by decide, uX3, zin (tb1 (List.mem_of_getElem? (i := 103) (by decide +kernel))) rfl⟩
theorem pX3_72 : zFldP RX3 72 3 5 (.int) := ⟨RX3, TX3, 17, tyX3, ⟨rfl, by decide, uX3, zin (tb1 (List.mem_of_getElem? (i := 103) (by decide +kernel))) rfl⟩, tyX3_ok, nmX3, rfl, by decide +kernel⟩
theorem fX2_36 : zFld RX2 36 3 5 := ⟨RX3, TX3, 17, rfl, by decide, uX3, zin (tb1 (List.mem_of_getElem? (i := 104) (by decide +kernel))) rfl⟩
theorem pX2_36 : zFldP RX2 36 3 5 (.int) := ⟨RX3, TX3, 17, tyX3, ⟨rfl, by decide, uX3, zin (tb1 (List.mem_of_getElem? (i := 104) (by decide +kernel))) rfl⟩, tyX3_ok, nmX3, rfl, by decide +kernel⟩
theorem fX8_80 : zFld RX8 80 3 5 := ⟨RX3, TX3, 17, rfl, by decide, uX3, zin (tb1 (List.mem_of_getElem? (i := 105) (by decide +kernel))) rfl⟩
theorem pX8_80 : zFldP RX8 80 3 5 (.int) := ⟨RX3, TX3, 17, tyX3, ⟨rfl, by decide, uX3, zin (tb1 (List.mem_of_getElem? (i := 105) (by decide +kernel))) rfl⟩, tyX3_ok, nmX3, rfl, by decide +kernel⟩
theorem fX9_126 : zFld RX9 126 3 5 := ⟨RX3, TX3, 17, rfl, by decide, uX3, zin (tb1 (List.mem_of_getElem? (i := 106) (by decide +kernel))) rfl⟩
theorem pX9_126 : zFldP RX9 126 3 5 (.int) := ⟨RX3, TX3, 17, tyX3, ⟨rfl, by decide, uX3, zin (tb1 (List.mem_of_getElem? (i := 106) (by decide +kernel))) rfl⟩, tyX3_ok, nmX3, rfl, by decide +kernel⟩
theorem fX5_127 : zFld RX5 127 3 5 := ⟨RX3, TX3, 17, rfl, by decide, uX3, zin (tb1 (List.mem_of_getElem? (i := 107) (by decide +kernel))) rfl⟩
theorem pX5_127 : zFldP RX5 127 3 5 (.int) := ⟨RX3, TX3, 17, tyX3, ⟨rfl, by decide, uX3, zin (tb1 (List.mem_of_getElem? (i := 107) (by decide +kernel))) rfl⟩, tyX3_ok, nmX3, rfl, by decide +kernel⟩
theorem fX3_24 : zFld RX3 24 3 6 := ⟨RX3, TX3, 17, rfl, by decide, uX3, zin (tb1 (List.mem_of_getElem? (i := 108) (by decide +kernel))) rfl⟩
theorem fX9_123 : zFld RX9 123 3 6 := ⟨RX3, TX3, 17, rfl, by decide, uX3, zin (tb1 (List.mem_of_getElem? (i := 109) (by decide +kernel))) rfl⟩
theorem fX5_130 : zFld RX5 130 3 6 := ⟨RX3, TX3, 17, rfl, by decide, uX3, zin (tb1 (List.mem_of_getElem? (i := 110) (by decide +kernel))) rfl⟩
theorem fX3_27 : zFld RX3 27 3 7 := ⟨RX3, TX3, 17, rfl, by decide, uX3, zin (tb1 (List.mem_of_getElem? (i := 111) (by decide +kernel))) rfl⟩
theorem fX2_58 : zFld RX2 58 3 7 := ⟨RX3, TX3, 17, rfl, by decide, uX3, zin (tb1 (List.mem_of_getElem? (i := 112) (by decide +kernel))) rfl⟩
theorem fX8_86 : zFld RX8 86 3 7 := ⟨RX3, TX3, 17, rfl, by decide, uX3, zin (tb1 (List.mem_of_getElem? (i := 113) (by decide +kernel))) rfl⟩
theorem fX5_133 : zFld RX5 133 3 7 := ⟨RX3, TX3, 17, rfl, by decide, uX3, zin (tb1 (List.mem_of_getElem? (i := 114) (by decide +kernel))) rfl⟩
theorem fX9_177 : zFld RX9 177 3 7 := ⟨RX3, TX3, 17, rfl, by decide, uX3, zin (tb1 (List.mem_of_getElem? (i := 115) (by decide +kernel))) rfl⟩
theorem fX3_30 : zFld RX3 30 3 8 := ⟨RX3, TX3, 17, rfl, by decide, uX3, zin (tb1 (List.mem_of_getElem? (i := 116) (by decide +kernel))) rfl⟩
theorem fX2_67 : zFld RX2 67 3 8 := ⟨RX3, TX3, 17, rfl, by decide, uX3, zin (tb1 (List.mem_of_getElem? (i := 117) (by decide +kernel))) rfl⟩
theorem fX5_136 : zFld RX5 136 3 8 := ⟨RX3, TX3, 17, rfl, by decide, uX3, zin (tb1 (List.mem_of_getElem? (i := 118) (by decide +kernel))) rfl⟩
theorem fX9_180 : zFld RX9 180 3 8 := ⟨RX3, TX3, 17, rfl, by decide, uX3, zin (tb1 (List.mem_of_getElem? (i := 119) (by decide +kernel))) rfl⟩
theorem fX8_116 : zFld RX8 116 3 8 := ⟨RX3, TX3, 17, rfl, by decide, uX3, zin (tb1 (List.mem_of_getElem? (i := 120) (by decide +kernel))) rfl⟩
theorem fX3_33 : zFld RX3 33 3 9 := ⟨RX3, TX3, 17, rfl, by decide, uX3, zin (tb1 (List.mem_of_getElem? (i := 121) (by decide +kernel))) rfl⟩
theorem fX8_51 : zFld RX8 51 3 9 := ⟨RX3, TX3, 17, rfl, by decide, uX3, zin (tb1 (List.mem_of_getElem? (i := 122) (by decide +kernel))) rfl⟩
theorem fX5_139 : zFld RX5 139 3 9 := ⟨RX3, TX3, 17, rfl, by decide, uX3, zin (tb1 (List.mem_of_getElem? (i := 123) (by decide +kernel))) rfl⟩
theorem fX3_75 : zFld RX3 75 3 10 := ⟨RX3, TX3, 17, rfl, by decide, uX3, zin (tb1 (List.mem_of_getElem? (i := 124) (by decide +kernel))) rfl⟩
theorem pX3_75 : zFldP RX3 75 3 10 (.int) := ⟨RX3, TX3, 17, tyX3, ⟨rfl, by decide, uX3, zin (tb1 (List.mem_of_getElem? (i := 124) (by decide +kernel))) rfl⟩, tyX3_ok, nmX3, rfl, by decide +kernel⟩
theorem fX5_142 : zFld RX5 142 3 10 := ⟨RX3, TX3, 17, rfl, by decide, uX3, zin (tb1 (List.mem_of_getElem? (i := 125) (by decide +kernel))) rfl⟩
theorem pX5_142 : zFldP RX5 142 3 10 (.int) := ⟨RX3, TX3, 17, tyX3, ⟨rfl, by decide, uX3, zin (tb1 (List.mem_of_getElem? (i := 125) (by decide +kernel))) rfl⟩, tyX3_ok, nmX3, rfl, by decide +kernel⟩
theorem fX8_146 : zFld RX8 146 3 10 := ⟨RX3, TX3, 17, rfl, by decide, uX3, zin (tb1 (List.mem_of_getElem? (i := 126) (by decide +kernel))) rfl⟩
theorem pX8_146 : zFldP RX8 146 3 10 (.int) := ⟨RX3, TX3, 17, tyX3, ⟨rfl, by decide, uX3, zin (tb1 (List.mem_of_getElem? (i := 126) (by decide +kernel))) rfl⟩, tyX3_ok, nmX3, rfl, by decide +kernel⟩
theorem fX3_36 : zFld RX3 36 3 11 := ⟨RX3, TX3, 17, rfl, by decide, uX3, zin (tb1 (List.mem_of_getElem? (i := 127) (by decide +kernel))) rfl⟩
theorem fX5_145 : zFld RX5 145 3 11 := ⟨RX3, TX3, 17, rfl, by decide, uX3, zin (tb1 (List.mem_of_getElem? (i := 128) (by decide +kernel))) rfl⟩
theorem fX8_151 : zFld RX8 151 3 11 := ⟨RX3, TX3, 17, rfl, by decide, uX3, zin (tb1 (List.mem_of_getElem? (i := 129) (by decide +kernel))) rfl⟩
theorem fX3_39 : zFld RX3 39 3 12 := ⟨RX3, TX3, 17, rfl, by decide, uX3, zin (tb1 (List.mem_of_getElem? (i := 130) (by decide +kernel))) rfl⟩
theorem fX5_148 : zFld RX5 148 3 12 := ⟨RX3, TX3, 17, rfl, by decide, uX3, zin (tb1 (List.mem_of_getElem? (i := 131) (by decide +kernel))) rfl⟩
theorem fX8_148 : zFld RX8 148 3 12 := ⟨RX3, TX3, 17, rfl, by decide, uX3, zin (tb1 (List.mem_of_getElem? (i := 132) (by decide +kernel))) rfl⟩
theorem fX3_42 : zFld RX3 42 3 13 := ⟨RX3, TX3, 17, rfl, by decide, uX3, zin (tb1 (List.mem_of_getElem? (i := 133) (by decide +kernel))) rfl⟩
theorem fX5_151 : zFld RX5 151 3 13 := ⟨RX3, TX3, 17, rfl, by decide, uX3, zin (tb1 (List.mem_of_getElem? (i := 134) (by decide +kernel))) rfl⟩
theorem fX8_154 : zFld RX8 154 3 13 := ⟨RX3, TX3, 17, rfl, by decide, uX3, zin (tb1 (List.mem_of_getElem? (i := 135) (by decide +kernel))) rfl⟩
theorem fX3_45 : zFld RX3 45 3 14 := ⟨RX3, TX3, 17, rfl, by decide, uX3, zin (tb1 (List.mem_of_getElem? (i := 136) (by decide +kernel))) rfl⟩
theorem fX8_59 : zFld RX8 59 3 14 := ⟨RX3, TX3, 17, rfl, by decide, uX3, zin (tb1 (List.mem_of_getElem? (i := 137) (by decide +kernel))) rfl⟩
theorem fX5_161 : zFld RX5 161 3 14 := ⟨RX3, TX3, 17, rfl, by decide, uX3, zin (tb1 (List.mem_of_getElem? (i := 138) (by decide +kernel))) rfl⟩
theorem fX9_339 : zFld RX9 339 3 14 := ⟨RX3, TX3, 17, rfl, by decide, uX3, zin (tb1 (List.mem_of_getElem? (i := 139) (by decide +kernel))) rfl⟩
theorem fX3_48 : zFld RX3 48 3 15 := ⟨RX3, TX3, 17, rfl, by decide, uX3, zin (tb1 (List.mem_of_getElem? (i := 140) (by decide +kernel))) rfl⟩
theorem fX5_154 : zFld RX5 154 3 15 := ⟨RX3, TX3, 17, rfl, by decide, uX3, zin (tb1 (List.mem_of_getElem? (i := 141) (by decide +kernel))) rfl⟩
theorem fX3_55 : zFld RX3 55 3 16 := ⟨RX3, TX3, 17, rfl, by decide, uX3, zin (tb1 (List.mem_of_getElem? (i := 142) (by decide +kernel))) rfl⟩
theorem fX8_100 : zFld RX8 100 3 16 := ⟨RX3, TX3, 17, rfl, by decide, uX3, zin (tb1 (List.mem_of_getElem? (i := 143) (by decide +kernel))) rfl⟩
theorem fX9_202 : zFld RX9 202 3 16 := ⟨RX3, TX3, 17, rfl, by decide, uX3, zin (tb1 (List.mem_of_getElem? (i := 144) (by decide +kernel))) rfl⟩
theorem fX5_164 : zFld RX5 164 3 16 := ⟨RX3, TX3, 17, rfl, by decide, uX3, zin (tb1 (List.mem_of_getElem? (i := 145) (by decide +kernel))) rfl⟩
theorem lX9_27 : Cond.methodLink RX9 27 yX5_init ∈ zWS := zin (tb1 (List.mem_of_getElem? (i := 183) (by decide +kernel))) rfl
theorem fX7_9 : zFld RX7 9 6 0 := ⟨RX7, TX7, 7, rfl, by decide, uX7, zin (tb1 (List.mem_of_getElem? (i := 193) (by decide +kernel))) rfl⟩
theorem pX7_9 : zFldP RX7 9 6 0 (.array .byte) := ⟨RX7, TX7, 7, tyX7, ⟨rfl, by decide, uX7, zin (tb1 (List.mem_of_getElem? (i := 193) (by decide +kernel))) rfl⟩, tyX7_ok, nmX7, rfl, by decide +kernel⟩
theorem fX7_31 : zFld RX7 31 6 1 := ⟨RX7, TX7, 7, rfl, by decide, uX7, zin (tb1 (List.mem_of_getElem? (i := 194) (by decide +kernel))) rfl⟩
theorem pX7_31 : zFldP RX7 31 6 1 (.int) := ⟨RX7, TX7, 7, tyX7, ⟨rfl, by decide, uX7, zin (tb1 (List.mem_of_getElem? (i := 194) (by decide +kernel))) rfl⟩, tyX7_ok, nmX7, rfl, by decide +kernel⟩
theorem fX7_35 : zFld RX7 35 6 2 := ⟨RX7, TX7, 7, rfl, by decide, uX7, zin (tb1 (List.mem_of_getElem? (i := 195) (by decide +kernel))) rfl⟩
theorem pX7_35 : zFldP RX7 35 6 2 (.int) := ⟨RX7, TX7, 7, tyX7, ⟨rfl, by decide, uX7, zin (tb1 (List.mem_of_getElem? (i := 195) (by decide +kernel))) rfl⟩, tyX7_ok, nmX7, rfl, by decide +kernel⟩
theorem fX7_38 : zFld RX7 38 6 3 := ⟨RX7, TX7, 7, rfl, by decide, uX7, zin (tb1 (List.mem_of_getElem? (i := 196) (by decide +kernel))) rfl⟩
theorem pX7_38 : zFldP RX7 38 6 3 (.int) := ⟨RX7, TX7, 7, tyX7, ⟨rfl, by decide, uX7, zin (tb1 (List.mem_of_getElem? (i := 196) (by decide +kernel))) rfl⟩, tyX7_ok, nmX7, rfl, by decide +kernel⟩
theorem fX5_58 : zFld RX5 58 6 3 := ⟨RX7, TX7, 7, rfl, by decide, uX7, zin (tb1 (List.mem_of_getElem? (i := 197) (by decide +kernel))) rfl⟩
theorem pX5_58 : zFldP RX5 58 6 3 (.int) := ⟨RX7, TX7, 7, tyX7, ⟨rfl, by decide, uX7, zin (tb1 (List.mem_of_getElem? (i := 197) (by decide +kernel))) rfl⟩, tyX7_ok, nmX7, rfl, by decide +kernel⟩
theorem fX7_15 : zFld RX7 15 6 4 := ⟨RX7, TX7, 7, rfl, by decide, uX7, zin (tb1 (List.mem_of_getElem? (i := 198) (by decide +kernel))) rfl⟩
theorem fX5_61 : zFld RX5 61 6 4 := ⟨RX7, TX7, 7, rfl, by decide, uX7, zin (tb1 (List.mem_of_getElem? (i := 199) (by decide +kernel))) rfl⟩
theorem fX7_19 : zFld RX7 19 6 5 := ⟨RX7, TX7, 7, rfl, by decide, uX7, zin (tb1 (List.mem_of_getElem? (i := 200) (by decide +kernel))) rfl⟩
theorem fX5_64 : zFld RX5 64 6 5 := ⟨RX7, TX7, 7, rfl, by decide, uX7, zin (tb1 (List.mem_of_getElem? (i := 201) (by decide +kernel))) rfl⟩
theorem fX7_22 : zFld RX7 22 6 6 := ⟨RX7, TX7, 7, rfl, by decide, uX7, zin (tb1 (List.mem_of_getElem? (i := 202) (by decide +kernel))) rfl⟩
theorem fX5_70 : zFld RX5 70 6 6 := ⟨RX7, TX7, 7, rfl, by decide, uX7, zin (tb1 (List.mem_of_getElem? (i := 203) (by decide +kernel))) rfl⟩
theorem fX5_33 : zFld RX5 33 5 0 := ⟨RX5, TX5, 14, rfl, by decide, uX5, zin (tb1 (List.mem_of_getElem? (i := 219) (by decide +kernel))) rfl⟩
theorem pX5_33 : zFldP RX5 33 5 0 (.int) := ⟨RX5, TX5, 14, tyX5, ⟨rfl, by decide, uX5, zin (tb1 (List.mem_of_getElem? (i := 219) (by decide +kernel))) rfl⟩, tyX5_ok, nmX5, rfl, by decide +kernel⟩
theorem fX9_93 : zFld RX9 93 5 0 := ⟨RX5, TX5, 14, rfl, by decide, uX5, zin (tb1 (List.mem_of_getElem? (i := 220) (by decide +kernel))) rfl⟩
theorem pX9_93 : zFldP RX9 93 5 0 (.int) := ⟨RX5, TX5, 14, tyX5, ⟨rfl, by decide, uX5, zin (tb1 (List.mem_of_getElem? (i := 220) (by decide +kernel))) rfl⟩, tyX5_ok, nmX5, rfl, by decide +kernel⟩
theorem fX5_9 : zFld RX5 9 5 1 := ⟨RX5, TX5, 14, rfl, by decide, uX5, zin (tb1 (List.mem_of_getElem? (i := 221) (by decide +kernel))) rfl⟩
theorem pX5_9 : zFldP RX5 9 5 1 (.int) := ⟨RX5, TX5, 14, tyX5, ⟨rfl, by decide, uX5, zin (tb1 (List.mem_of_getElem? (i := 221) (by decide +kernel))) rfl⟩, tyX5_ok, nmX5, rfl, by decide +kernel⟩
theorem fX9_99 : zFld RX9 99 5 1 := ⟨RX5, TX5, 14, rfl, by decide, uX5, zin (tb1 (List.mem_of_getElem? (i := 222) (by decide +kernel))) rfl⟩
theorem pX9_99 : zFldP RX9 99 5 1 (.int) := ⟨RX5, TX5, 14, tyX5, ⟨rfl, by decide, uX5, zin (tb1 (List.mem_of_getElem? (i := 222) (by decide +kernel))) rfl⟩, tyX5_ok, nmX5, rfl, by decide +kernel⟩
theorem fX5_18 : zFld RX5 18 5 2 := ⟨RX5, TX5, 14, rfl, by decide, uX5, zin (tb1 (List.mem_of_getElem? (i := 223) (by decide +kernel))) rfl⟩
theorem fX5_29 : zFld RX5 29 5 3 := ⟨RX5, TX5, 14, rfl, by decide, uX5, zin (tb1 (List.mem_of_getElem? (i := 224) (by decide +kernel))) rfl⟩
theorem pX5_29 : zFldP RX5 29 5 3 (.object "ColdFeet$Plan") := ⟨RX5, TX5, 14, tyX5, ⟨rfl, by decide, uX5, zin (tb1 (List.mem_of_getElem? (i := 224) (by decide +kernel))) rfl⟩, tyX5_ok, nmX5, rfl, by decide +kernel⟩
theorem fX5_45 : zFld RX5 45 5 4 := ⟨RX5, TX5, 14, rfl, by decide, uX5, zin (tb1 (List.mem_of_getElem? (i := 225) (by decide +kernel))) rfl⟩
theorem pX5_45 : zFldP RX5 45 5 4 (.int) := ⟨RX5, TX5, 14, tyX5, ⟨rfl, by decide, uX5, zin (tb1 (List.mem_of_getElem? (i := 225) (by decide +kernel))) rfl⟩, tyX5_ok, nmX5, rfl, by decide +kernel⟩
theorem fX5_51 : zFld RX5 51 5 5 := ⟨RX5, TX5, 14, rfl, by decide, uX5, zin (tb1 (List.mem_of_getElem? (i := 226) (by decide +kernel))) rfl⟩
theorem pX5_51 : zFldP RX5 51 5 5 (.int) := ⟨RX5, TX5, 14, tyX5, ⟨rfl, by decide, uX5, zin (tb1 (List.mem_of_getElem? (i := 226) (by decide +kernel))) rfl⟩, tyX5_ok, nmX5, rfl, by decide +kernel⟩
theorem fX5_67 : zFld RX5 67 5 6 := ⟨RX5, TX5, 14, rfl, by decide, uX5, zin (tb1 (List.mem_of_getElem? (i := 227) (by decide +kernel))) rfl⟩
theorem pX5_67 : zFldP RX5 67 5 6 (.int) := ⟨RX5, TX5, 14, tyX5, ⟨rfl, by decide, uX5, zin (tb1 (List.mem_of_getElem? (i := 227) (by decide +kernel))) rfl⟩, tyX5_ok, nmX5, rfl, by decide +kernel⟩
theorem fX5_73 : zFld RX5 73 5 7 := ⟨RX5, TX5, 14, rfl, by decide, uX5, zin (tb1 (List.mem_of_getElem? (i := 228) (by decide +kernel))) rfl⟩
theorem pX5_73 : zFldP RX5 73 5 7 (.int) := ⟨RX5, TX5, 14, tyX5, ⟨rfl, by decide, uX5, zin (tb1 (List.mem_of_getElem? (i := 228) (by decide +kernel))) rfl⟩, tyX5_ok, nmX5, rfl, by decide +kernel⟩
theorem fX5_22 : zFld RX5 22 5 8 := ⟨RX5, TX5, 14, rfl, by decide, uX5, zin (tb1 (List.mem_of_getElem? (i := 229) (by decide +kernel))) rfl⟩
theorem fX5_26 : zFld RX5 26 5 9 := ⟨RX5, TX5, 14, rfl, by decide, uX5, zin (tb1 (List.mem_of_getElem? (i := 230) (by decide +kernel))) rfl⟩
theorem fX5_174 : zFld RX5 174 5 10 := ⟨RX5, TX5, 14, rfl, by decide, uX5, zin (tb1 (List.mem_of_getElem? (i := 231) (by decide +kernel))) rfl⟩
theorem pX5_174 : zFldP RX5 174 5 10 (.int) := ⟨RX5, TX5, 14, tyX5, ⟨rfl, by decide, uX5, zin (tb1 (List.mem_of_getElem? (i := 231) (by decide +kernel))) rfl⟩, tyX5_ok, nmX5, rfl, by decide +kernel⟩
theorem fX5_177 : zFld RX5 177 5 11 := ⟨RX5, TX5, 14, rfl, by decide, uX5, zin (tb1 (List.mem_of_getElem? (i := 232) (by decide +kernel))) rfl⟩
theorem pX5_177 : zFldP RX5 177 5 11 (.int) := ⟨RX5, TX5, 14, tyX5, ⟨rfl, by decide, uX5, zin (tb1 (List.mem_of_getElem? (i := 232) (by decide +kernel))) rfl⟩, tyX5_ok, nmX5, rfl, by decide +kernel⟩
theorem fX5_180 : zFld RX5 180 5 12 := ⟨RX5, TX5, 14, rfl, by decide, uX5, zin (tb1 (List.mem_of_getElem? (i := 233) (by decide +kernel))) rfl⟩
theorem pX5_180 : zFldP RX5 180 5 12 (.boolean) := ⟨RX5, TX5, 14, tyX5, ⟨rfl, by decide, uX5, zin (tb1 (List.mem_of_getElem? (i := 233) (by decide +kernel))) rfl⟩, tyX5_ok, nmX5, rfl, by decide +kernel⟩
theorem fX5_184 : zFld RX5 184 5 13 := ⟨RX5, TX5, 14, rfl, by decide, uX5, zin (tb1 (List.mem_of_getElem? (i := 234) (by decide +kernel))) rfl⟩
theorem pX5_184 : zFldP RX5 184 5 13 (.boolean) := ⟨RX5, TX5, 14, tyX5, ⟨rfl, by decide, uX5, zin (tb1 (List.mem_of_getElem? (i := 234) (by decide +kernel))) rfl⟩, tyX5_ok, nmX5, rfl, by decide +kernel⟩
theorem lX9_40 : Cond.methodLink RX9 40 yX8_init ∈ zWS := zin (tb2 (List.mem_of_getElem? (i := 26) (by decide +kernel))) rfl
theorem lX8_44 : Cond.methodLink RX8 44 yX8_begin ∈ zWS := zin (tb2 (List.mem_of_getElem? (i := 30) (by decide +kernel))) rfl
theorem fX8_40 : zFld RX8 40 7 0 := ⟨RX8, TX8, 16, rfl, by decide, uX8, zin (tb2 (List.mem_of_getElem? (i := 34) (by decide +kernel))) rfl⟩
theorem pX8_40 : zFldP RX8 40 7 0 (.object "ColdFeet$Plan") := ⟨RX8, TX8, 16, tyX8, ⟨rfl, by decide, uX8, zin (tb2 (List.mem_of_getElem? (i := 34) (by decide +kernel))) rfl⟩, tyX8_ok, nmX8, rfl, by decide +kernel⟩
theorem fX8_9 : zFld RX8 9 7 1 := ⟨RX8, TX8, 16, rfl, by decide, uX8, zin (tb2 (List.mem_of_getElem? (i := 36) (by decide +kernel))) rfl⟩
theorem fX9_312 : zFld RX9 312 7 1 := ⟨RX8, TX8, 16, rfl, by decide, uX8, zin (tb2 (List.mem_of_getElem? (i := 37) (by decide +kernel))) rfl⟩
theorem fX8_15 : zFld RX8 15 7 2 := ⟨RX8, TX8, 16, rfl, by decide, uX8, zin (tb2 (List.mem_of_getElem? (i := 38) (by decide +kernel))) rfl⟩
theorem fX9_143 : zFld RX9 143 7 2 := ⟨RX8, TX8, 16, rfl, by decide, uX8, zin (tb2 (List.mem_of_getElem? (i := 39) (by decide +kernel))) rfl⟩
theorem fX8_18 : zFld RX8 18 7 3 := ⟨RX8, TX8, 16, rfl, by decide, uX8, zin (tb2 (List.mem_of_getElem? (i := 40) (by decide +kernel))) rfl⟩
theorem fX9_149 : zFld RX9 149 7 3 := ⟨RX8, TX8, 16, rfl, by decide, uX8, zin (tb2 (List.mem_of_getElem? (i := 41) (by decide +kernel))) rfl⟩
theorem fX8_21 : zFld RX8 21 7 4 := ⟨RX8, TX8, 16, rfl, by decide, uX8, zin (tb2 (List.mem_of_getElem? (i := 42) (by decide +kernel))) rfl⟩
theorem fX2_61 : zFld RX2 61 7 4 := ⟨RX8, TX8, 16, rfl, by decide, uX8, zin (tb2 (List.mem_of_getElem? (i := 43) (by decide +kernel))) rfl⟩
theorem fX9_152 : zFld RX9 152 7 4 := ⟨RX8, TX8, 16, rfl, by decide, uX8, zin (tb2 (List.mem_of_getElem? (i := 44) (by decide +kernel))) rfl⟩
theorem fX8_24 : zFld RX8 24 7 5 := ⟨RX8, TX8, 16, rfl, by decide, uX8, zin (tb2 (List.mem_of_getElem? (i := 45) (by decide +kernel))) rfl⟩
theorem fX9_155 : zFld RX9 155 7 5 := ⟨RX8, TX8, 16, rfl, by decide, uX8, zin (tb2 (List.mem_of_getElem? (i := 46) (by decide +kernel))) rfl⟩
theorem fX8_27 : zFld RX8 27 7 6 := ⟨RX8, TX8, 16, rfl, by decide, uX8, zin (tb2 (List.mem_of_getElem? (i := 47) (by decide +kernel))) rfl⟩
theorem fX9_158 : zFld RX9 158 7 6 := ⟨RX8, TX8, 16, rfl, by decide, uX8, zin (tb2 (List.mem_of_getElem? (i := 48) (by decide +kernel))) rfl⟩
theorem fX8_30 : zFld RX8 30 7 7 := ⟨RX8, TX8, 16, rfl, by decide, uX8, zin (tb2 (List.mem_of_getElem? (i := 49) (by decide +kernel))) rfl⟩
theorem fX9_165 : zFld RX9 165 7 7 := ⟨RX8, TX8, 16, rfl, by decide, uX8, zin (tb2 (List.mem_of_getElem? (i := 50) (by decide +kernel))) rfl⟩
theorem fX8_34 : zFld RX8 34 7 8 := ⟨RX8, TX8, 16, rfl, by decide, uX8, zin (tb2 (List.mem_of_getElem? (i := 51) (by decide +kernel))) rfl⟩
theorem fX2_64 : zFld RX2 64 7 8 := ⟨RX8, TX8, 16, rfl, by decide, uX8, zin (tb2 (List.mem_of_getElem? (i := 52) (by decide +kernel))) rfl⟩
theorem fX9_186 : zFld RX9 186 7 8 := ⟨RX8, TX8, 16, rfl, by decide, uX8, zin (tb2 (List.mem_of_getElem? (i := 53) (by decide +kernel))) rfl⟩
theorem fX8_37 : zFld RX8 37 7 9 := ⟨RX8, TX8, 16, rfl, by decide, uX8, zin (tb2 (List.mem_of_getElem? (i := 54) (by decide +kernel))) rfl⟩
theorem fX9_183 : zFld RX9 183 7 9 := ⟨RX8, TX8, 16, rfl, by decide, uX8, zin (tb2 (List.mem_of_getElem? (i := 55) (by decide +kernel))) rfl⟩
theorem fX8_52 : zFld RX8 52 7 10 := ⟨RX8, TX8, 16, rfl, by decide, uX8, zin (tb2 (List.mem_of_getElem? (i := 56) (by decide +kernel))) rfl⟩
theorem pX8_52 : zFldP RX8 52 7 10 (.int) := ⟨RX8, TX8, 16, tyX8, ⟨rfl, by decide, uX8, zin (tb2 (List.mem_of_getElem? (i := 56) (by decide +kernel))) rfl⟩, tyX8_ok, nmX8, rfl, by decide +kernel⟩
theorem fX9_215 : zFld RX9 215 7 10 := ⟨RX8, TX8, 16, rfl, by decide, uX8, zin (tb2 (List.mem_of_getElem? (i := 57) (by decide +kernel))) rfl⟩
theorem pX9_215 : zFldP RX9 215 7 10 (.int) := ⟨RX8, TX8, 16, tyX8, ⟨rfl, by decide, uX8, zin (tb2 (List.mem_of_getElem? (i := 57) (by decide +kernel))) rfl⟩, tyX8_ok, nmX8, rfl, by decide +kernel⟩
theorem fX8_56 : zFld RX8 56 7 11 := ⟨RX8, TX8, 16, rfl, by decide, uX8, zin (tb2 (List.mem_of_getElem? (i := 58) (by decide +kernel))) rfl⟩
theorem pX8_56 : zFldP RX8 56 7 11 (.int) := ⟨RX8, TX8, 16, tyX8, ⟨rfl, by decide, uX8, zin (tb2 (List.mem_of_getElem? (i := 58) (by decide +kernel))) rfl⟩, tyX8_ok, nmX8, rfl, by decide +kernel⟩
theorem fX9_224 : zFld RX9 224 7 11 := ⟨RX8, TX8, 16, rfl, by decide, uX8, zin (tb2 (List.mem_of_getElem? (i := 59) (by decide +kernel))) rfl⟩
theorem pX9_224 : zFldP RX9 224 7 11 (.int) := ⟨RX8, TX8, 16, tyX8, ⟨rfl, by decide, uX8, zin (tb2 (List.mem_of_getElem? (i := 59) (by decide +kernel))) rfl⟩, tyX8_ok, nmX8, rfl, by decide +kernel⟩
theorem fX8_62 : zFld RX8 62 7 12 := ⟨RX8, TX8, 16, rfl, by decide, uX8, zin (tb2 (List.mem_of_getElem? (i := 60) (by decide +kernel))) rfl⟩
theorem pX8_62 : zFldP RX8 62 7 12 (.int) := ⟨RX8, TX8, 16, tyX8, ⟨rfl, by decide, uX8, zin (tb2 (List.mem_of_getElem? (i := 60) (by decide +kernel))) rfl⟩, tyX8_ok, nmX8, rfl, by decide +kernel⟩
theorem fX9_227 : zFld RX9 227 7 12 := ⟨RX8, TX8, 16, rfl, by decide, uX8, zin (tb2 (List.mem_of_getElem? (i := 61) (by decide +kernel))) rfl⟩
theorem pX9_227 : zFldP RX9 227 7 12 (.int) := ⟨RX8, TX8, 16, tyX8, ⟨rfl, by decide, uX8, zin (tb2 (List.mem_of_getElem? (i := 61) (by decide +kernel))) rfl⟩, tyX8_ok, nmX8, rfl, by decide +kernel⟩
theorem fX8_65 : zFld RX8 65 7 13 := ⟨RX8, TX8, 16, rfl, by decide, uX8, zin (tb2 (List.mem_of_getElem? (i := 62) (by decide +kernel))) rfl⟩
theorem pX8_65 : zFldP RX8 65 7 13 (.int) := ⟨RX8, TX8, 16, tyX8, ⟨rfl, by decide, uX8, zin (tb2 (List.mem_of_getElem? (i := 62) (by decide +kernel))) rfl⟩, tyX8_ok, nmX8, rfl, by decide +kernel⟩
theorem fX9_233 : zFld RX9 233 7 13 := ⟨RX8, TX8, 16, rfl, by decide, uX8, zin (tb2 (List.mem_of_getElem? (i := 63) (by decide +kernel))) rfl⟩
theorem pX9_233 : zFldP RX9 233 7 13 (.int) := ⟨RX8, TX8, 16, tyX8, ⟨rfl, by decide, uX8, zin (tb2 (List.mem_of_getElem? (i := 63) (by decide +kernel))) rfl⟩, tyX8_ok, nmX8, rfl, by decide +kernel⟩
theorem fX8_68 : zFld RX8 68 7 14 := ⟨RX8, TX8, 16, rfl, by decide, uX8, zin (tb2 (List.mem_of_getElem? (i := 64) (by decide +kernel))) rfl⟩
theorem pX8_68 : zFldP RX8 68 7 14 (.int) := ⟨RX8, TX8, 16, tyX8, ⟨rfl, by decide, uX8, zin (tb2 (List.mem_of_getElem? (i := 64) (by decide +kernel))) rfl⟩, tyX8_ok, nmX8, rfl, by decide +kernel⟩
theorem fX9_288 : zFld RX9 288 7 14 := ⟨RX8, TX8, 16, rfl, by decide, uX8, zin (tb2 (List.mem_of_getElem? (i := 65) (by decide +kernel))) rfl⟩
theorem pX9_288 : zFldP RX9 288 7 14 (.int) := ⟨RX8, TX8, 16, tyX8, ⟨rfl, by decide, uX8, zin (tb2 (List.mem_of_getElem? (i := 65) (by decide +kernel))) rfl⟩, tyX8_ok, nmX8, rfl, by decide +kernel⟩
theorem fX8_71 : zFld RX8 71 7 15 := ⟨RX8, TX8, 16, rfl, by decide, uX8, zin (tb2 (List.mem_of_getElem? (i := 66) (by decide +kernel))) rfl⟩
theorem pX8_71 : zFldP RX8 71 7 15 (.int) := ⟨RX8, TX8, 16, tyX8, ⟨rfl, by decide, uX8, zin (tb2 (List.mem_of_getElem? (i := 66) (by decide +kernel))) rfl⟩, tyX8_ok, nmX8, rfl, by decide +kernel⟩
theorem fX9_282 : zFld RX9 282 7 15 := ⟨RX8, TX8, 16, rfl, by decide, uX8, zin (tb2 (List.mem_of_getElem? (i := 67) (by decide +kernel))) rfl⟩
theorem pX9_282 : zFldP RX9 282 7 15 (.int) := ⟨RX8, TX8, 16, tyX8, ⟨rfl, by decide, uX8, zin (tb2 (List.mem_of_getElem? (i := 67) (by decide +kernel))) rfl⟩, tyX8_ok, nmX8, rfl, by decide +kernel⟩
theorem fX0_21 : zFld RX0 21 0 0 := ⟨RX0, TX0, 4, rfl, by decide, uX0, zin (tb2 (List.mem_of_getElem? (i := 107) (by decide +kernel))) rfl⟩
theorem pX0_21 : zFldP RX0 21 0 0 (.int) := ⟨RX0, TX0, 4, tyX0, ⟨rfl, by decide, uX0, zin (tb2 (List.mem_of_getElem? (i := 107) (by decide +kernel))) rfl⟩, tyX0_ok, nmX0, rfl, by decide +kernel⟩
theorem fX9_107 : zFld RX9 107 0 0 := ⟨RX0, TX0, 4, rfl, by decide, uX0, zin (tb2 (List.mem_of_getElem? (i := 108) (by decide +kernel))) rfl⟩
theorem pX9_107 : zFldP RX9 107 0 0 (.int) := ⟨RX0, TX0, 4, tyX0, ⟨rfl, by decide, uX0, zin (tb2 (List.mem_of_getElem? (i := 108) (by decide +kernel))) rfl⟩, tyX0_ok, nmX0, rfl, by decide +kernel⟩
theorem fX0_9 : zFld RX0 9 0 1 := ⟨RX0, TX0, 4, rfl, by decide, uX0, zin (tb2 (List.mem_of_getElem? (i := 109) (by decide +kernel))) rfl⟩
theorem fX9_256 : zFld RX9 256 0 1 := ⟨RX0, TX0, 4, rfl, by decide, uX0, zin (tb2 (List.mem_of_getElem? (i := 110) (by decide +kernel))) rfl⟩
theorem fX0_15 : zFld RX0 15 0 2 := ⟨RX0, TX0, 4, rfl, by decide, uX0, zin (tb2 (List.mem_of_getElem? (i := 111) (by decide +kernel))) rfl⟩
theorem fX9_259 : zFld RX9 259 0 2 := ⟨RX0, TX0, 4, rfl, by decide, uX0, zin (tb2 (List.mem_of_getElem? (i := 112) (by decide +kernel))) rfl⟩
theorem fX0_18 : zFld RX0 18 0 3 := ⟨RX0, TX0, 4, rfl, by decide, uX0, zin (tb2 (List.mem_of_getElem? (i := 113) (by decide +kernel))) rfl⟩
theorem fX9_262 : zFld RX9 262 0 3 := ⟨RX0, TX0, 4, rfl, by decide, uX0, zin (tb2 (List.mem_of_getElem? (i := 114) (by decide +kernel))) rfl⟩
theorem fX4_32 : zFld RX4 32 4 0 := ⟨RX4, TX4, 7, rfl, by decide, uX4, zin (tb2 (List.mem_of_getElem? (i := 130) (by decide +kernel))) rfl⟩
theorem pX4_32 : zFldP RX4 32 4 0 (.int) := ⟨RX4, TX4, 7, tyX4, ⟨rfl, by decide, uX4, zin (tb2 (List.mem_of_getElem? (i := 130) (by decide +kernel))) rfl⟩, tyX4_ok, nmX4, rfl, by decide +kernel⟩
theorem fX9_236 : zFld RX9 236 4 0 := ⟨RX4, TX4, 7, rfl, by decide, uX4, zin (tb2 (List.mem_of_getElem? (i := 131) (by decide +kernel))) rfl⟩
theorem pX9_236 : zFldP RX9 236 4 0 (.int) := ⟨RX4, TX4, 7, tyX4, ⟨rfl, by decide, uX4, zin (tb2 (List.mem_of_getElem? (i := 131) (by decide +kernel))) rfl⟩, tyX4_ok, nmX4, rfl, by decide +kernel⟩
theorem fX4_9 : zFld RX4 9 4 1 := ⟨RX4, TX4, 7, rfl, by decide, uX4, zin (tb2 (List.mem_of_getElem? (i := 132) (by decide +kernel))) rfl⟩
theorem pX4_9 : zFldP RX4 9 4 1 (.int) := ⟨RX4, TX4, 7, tyX4, ⟨rfl, by decide, uX4, zin (tb2 (List.mem_of_getElem? (i := 132) (by decide +kernel))) rfl⟩, tyX4_ok, nmX4, rfl, by decide +kernel⟩
theorem fX9_348 : zFld RX9 348 4 1 := ⟨RX4, TX4, 7, rfl, by decide, uX4, zin (tb2 (List.mem_of_getElem? (i := 133) (by decide +kernel))) rfl⟩
theorem pX9_348 : zFldP RX9 348 4 1 (.int) := ⟨RX4, TX4, 7, tyX4, ⟨rfl, by decide, uX4, zin (tb2 (List.mem_of_getElem? (i := 133) (by decide +kernel))) rfl⟩, tyX4_ok, nmX4, rfl, by decide +kernel⟩
theorem fX4_15 : zFld RX4 15 4 2 := ⟨RX4, TX4, 7, rfl, by decide, uX4, zin (tb2 (List.mem_of_getElem? (i := 134) (by decide +kernel))) rfl⟩
theorem fX4_19 : zFld RX4 19 4 3 := ⟨RX4, TX4, 7, rfl, by decide, uX4, zin (tb2 (List.mem_of_getElem? (i := 135) (by decide +kernel))) rfl⟩
theorem fX4_22 : zFld RX4 22 4 4 := ⟨RX4, TX4, 7, rfl, by decide, uX4, zin (tb2 (List.mem_of_getElem? (i := 136) (by decide +kernel))) rfl⟩
theorem fX4_26 : zFld RX4 26 4 5 := ⟨RX4, TX4, 7, rfl, by decide, uX4, zin (tb2 (List.mem_of_getElem? (i := 137) (by decide +kernel))) rfl⟩
theorem fX4_29 : zFld RX4 29 4 6 := ⟨RX4, TX4, 7, rfl, by decide, uX4, zin (tb2 (List.mem_of_getElem? (i := 138) (by decide +kernel))) rfl⟩
theorem fX2_11 : zFld RX2 11 2 0 := ⟨RX2, TX2, 2, rfl, by decide, uX2, zin (tb2 (List.mem_of_getElem? (i := 160) (by decide +kernel))) rfl⟩
theorem fX2_15 : zFld RX2 15 2 1 := ⟨RX2, TX2, 2, rfl, by decide, uX2, zin (tb2 (List.mem_of_getElem? (i := 161) (by decide +kernel))) rfl⟩
theorem fX9_309 : zFld RX9 309 2 1 := ⟨RX2, TX2, 2, rfl, by decide, uX2, zin (tb2 (List.mem_of_getElem? (i := 162) (by decide +kernel))) rfl⟩
theorem fX9_11 : zFld RX9 11 8 0 := ⟨RX9, TX9, 17, rfl, by decide, uX9, zin (tb2 (List.mem_of_getElem? (i := 168) (by decide +kernel))) rfl⟩
theorem fX9_82 : zFld RX9 82 8 1 := ⟨RX9, TX9, 17, rfl, by decide, uX9, zin (tb2 (List.mem_of_getElem? (i := 169) (by decide +kernel))) rfl⟩
theorem pX9_82 : zFldP RX9 82 8 1 (.int) := ⟨RX9, TX9, 17, tyX9, ⟨rfl, by decide, uX9, zin (tb2 (List.mem_of_getElem? (i := 169) (by decide +kernel))) rfl⟩, tyX9_ok, nmX9, rfl, by decide +kernel⟩
theorem fX9_18 : zFld RX9 18 8 2 := ⟨RX9, TX9, 17, rfl, by decide, uX9, zin (tb2 (List.mem_of_getElem? (i := 170) (by decide +kernel))) rfl⟩
theorem pX9_18 : zFldP RX9 18 8 2 (.object "ColdFeet$Plan") := ⟨RX9, TX9, 17, tyX9, ⟨rfl, by decide, uX9, zin (tb2 (List.mem_of_getElem? (i := 170) (by decide +kernel))) rfl⟩, tyX9_ok, nmX9, rfl, by decide +kernel⟩
theorem fX9_22 : zFld RX9 22 8 3 := ⟨RX9, TX9, 17, rfl, by decide, uX9, zin (tb2 (List.mem_of_getElem? (i := 171) (by decide +kernel))) rfl⟩
theorem pX9_22 : zFldP RX9 22 8 3 (.object "ColdFeet$Plan") := ⟨RX9, TX9, 17, tyX9, ⟨rfl, by decide, uX9, zin (tb2 (List.mem_of_getElem? (i := 171) (by decide +kernel))) rfl⟩, tyX9_ok, nmX9, rfl, by decide +kernel⟩
theorem fX9_30 : zFld RX9 30 8 4 := ⟨RX9, TX9, 17, rfl, by decide, uX9, zin (tb2 (List.mem_of_getElem? (i := 172) (by decide +kernel))) rfl⟩
theorem fX9_96 : zFld RX9 96 8 5 := ⟨RX9, TX9, 17, rfl, by decide, uX9, zin (tb2 (List.mem_of_getElem? (i := 173) (by decide +kernel))) rfl⟩
theorem pX9_96 : zFldP RX9 96 8 5 (.int) := ⟨RX9, TX9, 17, tyX9, ⟨rfl, by decide, uX9, zin (tb2 (List.mem_of_getElem? (i := 173) (by decide +kernel))) rfl⟩, tyX9_ok, nmX9, rfl, by decide +kernel⟩
theorem fX9_34 : zFld RX9 34 8 6 := ⟨RX9, TX9, 17, rfl, by decide, uX9, zin (tb2 (List.mem_of_getElem? (i := 174) (by decide +kernel))) rfl⟩
theorem pX9_34 : zFldP RX9 34 8 6 (.int) := ⟨RX9, TX9, 17, tyX9, ⟨rfl, by decide, uX9, zin (tb2 (List.mem_of_getElem? (i := 174) (by decide +kernel))) rfl⟩, tyX9_ok, nmX9, rfl, by decide +kernel⟩
theorem fX9_41 : zFld RX9 41 8 7 := ⟨RX9, TX9, 17, rfl, by decide, uX9, zin (tb2 (List.mem_of_getElem? (i := 175) (by decide +kernel))) rfl⟩
theorem fX9_45 : zFld RX9 45 8 8 := ⟨RX9, TX9, 17, rfl, by decide, uX9, zin (tb2 (List.mem_of_getElem? (i := 176) (by decide +kernel))) rfl⟩
theorem fX9_48 : zFld RX9 48 8 9 := ⟨RX9, TX9, 17, rfl, by decide, uX9, zin (tb2 (List.mem_of_getElem? (i := 177) (by decide +kernel))) rfl⟩
theorem fX9_103 : zFld RX9 103 8 10 := ⟨RX9, TX9, 17, rfl, by decide, uX9, zin (tb2 (List.mem_of_getElem? (i := 178) (by decide +kernel))) rfl⟩
theorem pX9_103 : zFldP RX9 103 8 10 (.boolean) := ⟨RX9, TX9, 17, tyX9, ⟨rfl, by decide, uX9, zin (tb2 (List.mem_of_getElem? (i := 178) (by decide +kernel))) rfl⟩, tyX9_ok, nmX9, rfl, by decide +kernel⟩
theorem fX9_54 : zFld RX9 54 8 11 := ⟨RX9, TX9, 17, rfl, by decide, uX9, zin (tb2 (List.mem_of_getElem? (i := 179) (by decide +kernel))) rfl⟩
theorem fX9_61 : zFld RX9 61 8 12 := ⟨RX9, TX9, 17, rfl, by decide, uX9, zin (tb2 (List.mem_of_getElem? (i := 180) (by decide +kernel))) rfl⟩
theorem fX9_68 : zFld RX9 68 8 13 := ⟨RX9, TX9, 17, rfl, by decide, uX9, zin (tb2 (List.mem_of_getElem? (i := 181) (by decide +kernel))) rfl⟩
theorem fX9_72 : zFld RX9 72 8 14 := ⟨RX9, TX9, 17, rfl, by decide, uX9, zin (tb2 (List.mem_of_getElem? (i := 182) (by decide +kernel))) rfl⟩
theorem fX9_76 : zFld RX9 76 8 15 := ⟨RX9, TX9, 17, rfl, by decide, uX9, zin (tb2 (List.mem_of_getElem? (i := 183) (by decide +kernel))) rfl⟩
theorem fX9_79 : zFld RX9 79 8 16 := ⟨RX9, TX9, 17, rfl, by decide, uX9, zin (tb2 (List.mem_of_getElem? (i := 184) (by decide +kernel))) rfl⟩
theorem lL_21 : Cond.methodLink RL 21 yX9_feed ∈ zWS := zin (tb2 (List.mem_of_getElem? (i := 220) (by decide +kernel))) rfl
theorem lX9_85 : Cond.methodLink RX9 85 yX9_putFour ∈ zWS := zin (tb2 (List.mem_of_getElem? (i := 224) (by decide +kernel))) rfl
theorem lL_26 : Cond.methodLink RL 26 yX9_text ∈ zWS := zin (tb2 (List.mem_of_getElem? (i := 228) (by decide +kernel))) rfl
theorem lX9_89 : Cond.methodLink RX9 89 yX5_read ∈ zWS := zin (tb2 (List.mem_of_getElem? (i := 232) (by decide +kernel))) rfl
theorem lX5_36 : Cond.methodLink RX5 36 yX3_clear ∈ zWS := zin (tb2 (List.mem_of_getElem? (i := 236) (by decide +kernel))) rfl
theorem lX3_78 : Cond.methodLink RX3 78 yX1_clear ∈ zWS := zin (tb3 (List.mem_of_getElem? (i := 0) (by decide +kernel))) rfl
theorem lX5_41 : Cond.methodLink RX5 41 yX7_scan ∈ zWS := zin (tb3 (List.mem_of_getElem? (i := 4) (by decide +kernel))) rfl
theorem lX7_41 : Cond.methodLink RX7 41 yX7_skipBlanks ∈ zWS := zin (tb3 (List.mem_of_getElem? (i := 11) (by decide +kernel))) rfl
theorem lX7_44 : Cond.methodLink RX7 44 yX7_takeToken ∈ zWS := zin (tb3 (List.mem_of_getElem? (i := 15) (by decide +kernel))) rfl
theorem lX7_48 : Cond.methodLink RX7 48 yX7_peek ∈ zWS := zin (tb3 (List.mem_of_getElem? (i := 19) (by decide +kernel))) rfl
theorem lX7_54 : Cond.methodLink RX7 54 yX7_isLetter ∈ zWS := zin (tb3 (List.mem_of_getElem? (i := 23) (by decide +kernel))) rfl
theorem lX7_58 : Cond.methodLink RX7 58 yX7_takeWord ∈ zWS := zin (tb3 (List.mem_of_getElem? (i := 26) (by decide +kernel))) rfl
theorem lX7_61 : Cond.methodLink RX7 61 yX7_isDigit ∈ zWS := zin (tb3 (List.mem_of_getElem? (i := 35) (by decide +kernel))) rfl
theorem lX7_64 : Cond.methodLink RX7 64 yX7_takeNumber ∈ zWS := zin (tb3 (List.mem_of_getElem? (i := 38) (by decide +kernel))) rfl
theorem kX7_77 : Cond.constant RX7 77 (1000000) ∈ zWS := zin (tb3 (List.mem_of_getElem? (i := 42) (by decide +kernel))) rfl
theorem lX7_67 : Cond.methodLink RX7 67 yX7_takeSign ∈ zWS := zin (tb3 (List.mem_of_getElem? (i := 43) (by decide +kernel))) rfl
theorem lX7_78 : Cond.methodLink RX7 78 yX7_takes ∈ zWS := zin (tb3 (List.mem_of_getElem? (i := 47) (by decide +kernel))) rfl
theorem lX5_48 : Cond.methodLink RX5 48 yX5_advance ∈ zWS := zin (tb3 (List.mem_of_getElem? (i := 51) (by decide +kernel))) rfl
theorem lX5_54 : Cond.methodLink RX5 54 yX5_readLine ∈ zWS := zin (tb3 (List.mem_of_getElem? (i := 55) (by decide +kernel))) rfl
theorem lX5_78 : Cond.methodLink RX5 78 yX5_readSetting ∈ zWS := zin (tb3 (List.mem_of_getElem? (i := 59) (by decide +kernel))) rfl
theorem lX5_94 : Cond.methodLink RX5 94 yX5_fails ∈ zWS := zin (tb3 (List.mem_of_getElem? (i := 63) (by decide +kernel))) rfl
theorem lX5_114 : Cond.methodLink RX5 114 yX5_readsNumber ∈ zWS := zin (tb3 (List.mem_of_getElem? (i := 69) (by decide +kernel))) rfl
theorem lX5_97 : Cond.methodLink RX5 97 yX5_reads ∈ zWS := zin (tb3 (List.mem_of_getElem? (i := 73) (by decide +kernel))) rfl
theorem lX5_82 : Cond.methodLink RX5 82 yX5_readMan ∈ zWS := zin (tb3 (List.mem_of_getElem? (i := 77) (by decide +kernel))) rfl
theorem lX5_110 : Cond.methodLink RX5 110 yX5_readsNewName ∈ zWS := zin (tb3 (List.mem_of_getElem? (i := 81) (by decide +kernel))) rfl
theorem lX5_85 : Cond.methodLink RX5 85 yX5_readThing ∈ zWS := zin (tb3 (List.mem_of_getElem? (i := 86) (by decide +kernel))) rfl
theorem lX5_88 : Cond.methodLink RX5 88 yX5_readLook ∈ zWS := zin (tb3 (List.mem_of_getElem? (i := 90) (by decide +kernel))) rfl
theorem lX5_91 : Cond.methodLink RX5 91 yX5_readLaw ∈ zWS := zin (tb3 (List.mem_of_getElem? (i := 94) (by decide +kernel))) rfl
theorem lX5_187 : Cond.methodLink RX5 187 yX5_release ∈ zWS := zin (tb3 (List.mem_of_getElem? (i := 98) (by decide +kernel))) rfl
theorem lX5_213 : Cond.methodLink RX5 213 yX1_tell ∈ zWS := zin (tb3 (List.mem_of_getElem? (i := 102) (by decide +kernel))) rfl
theorem lX5_194 : Cond.methodLink RX5 194 yX5_takeOperand ∈ zWS := zin (tb3 (List.mem_of_getElem? (i := 106) (by decide +kernel))) rfl
theorem lX5_200 : Cond.methodLink RX5 200 yX5_takeOpen ∈ zWS := zin (tb3 (List.mem_of_getElem? (i := 110) (by decide +kernel))) rfl
theorem lX5_210 : Cond.methodLink RX5 210 yX5_putWaiting ∈ zWS := zin (tb3 (List.mem_of_getElem? (i := 114) (by decide +kernel))) rfl
theorem lX5_206 : Cond.methodLink RX5 206 yX5_levelOf ∈ zWS := zin (tb3 (List.mem_of_getElem? (i := 118) (by decide +kernel))) rfl
theorem lX5_197 : Cond.methodLink RX5 197 yX5_takeOperator ∈ zWS := zin (tb3 (List.mem_of_getElem? (i := 121) (by decide +kernel))) rfl
theorem lX9_100 : Cond.methodLink RX9 100 yX8_begin ∈ zWS := zin (tb3 (List.mem_of_getElem? (i := 128) (by decide +kernel))) rfl
theorem lX9_110 : Cond.methodLink RX9 110 yX4_clear ∈ zWS := zin (tb3 (List.mem_of_getElem? (i := 129) (by decide +kernel))) rfl
theorem lL_31 : Cond.methodLink RL 31 yX9_fault ∈ zWS := zin (tb3 (List.mem_of_getElem? (i := 133) (by decide +kernel))) rfl
theorem lL_35 : Cond.methodLink RL 35 yX9_named ∈ zWS := zin (tb3 (List.mem_of_getElem? (i := 137) (by decide +kernel))) rfl
theorem lX9_119 : Cond.methodLink RX9 119 yX9_find ∈ zWS := zin (tb3 (List.mem_of_getElem? (i := 141) (by decide +kernel))) rfl
theorem lL_49 : Cond.methodLink RL 49 yX9_thing ∈ zWS := zin (tb3 (List.mem_of_getElem? (i := 142) (by decide +kernel))) rfl
theorem lX9_174 : Cond.methodLink RX9 174 yX9_isThing ∈ zWS := zin (tb3 (List.mem_of_getElem? (i := 146) (by decide +kernel))) rfl
theorem lX9_189 : Cond.methodLink RX9 189 yX8_goerFor ∈ zWS := zin (tb3 (List.mem_of_getElem? (i := 150) (by decide +kernel))) rfl
theorem lL_53 : Cond.methodLink RL 53 yX9_law ∈ zWS := zin (tb3 (List.mem_of_getElem? (i := 155) (by decide +kernel))) rfl
theorem lX9_129 : Cond.methodLink RX9 129 yX9_isMan ∈ zWS := zin (tb3 (List.mem_of_getElem? (i := 159) (by decide +kernel))) rfl
theorem kX9_192 : Cond.constantLong RX9 192 (-9223372036854775808) ∈ zWS := zin (tb3 (List.mem_of_getElem? (i := 163) (by decide +kernel))) rfl
theorem lX9_194 : Cond.methodLink RX9 194 yX8_freeThing ∈ zWS := zin (tb3 (List.mem_of_getElem? (i := 164) (by decide +kernel))) rfl
theorem lX8_97 : Cond.methodLink RX8 97 yX8_goerFor ∈ zWS := zin (tb3 (List.mem_of_getElem? (i := 168) (by decide +kernel))) rfl
theorem lX9_198 : Cond.methodLink RX9 198 yX8_setFacts ∈ zWS := zin (tb3 (List.mem_of_getElem? (i := 169) (by decide +kernel))) rfl
theorem lX9_206 : Cond.methodLink RX9 206 yX1_work ∈ zWS := zin (tb3 (List.mem_of_getElem? (i := 173) (by decide +kernel))) rfl
theorem kX1_40 : Cond.constantLong RX1 40 (-9223372036854775808) ∈ zWS := zin (tb3 (List.mem_of_getElem? (i := 177) (by decide +kernel))) rfl
theorem lX1_42 : Cond.methodLink RX1 42 yX1_combine ∈ zWS := zin (tb3 (List.mem_of_getElem? (i := 178) (by decide +kernel))) rfl
theorem kX1_50 : Cond.constantLong RX1 50 (1000000000000) ∈ zWS := zin (tb3 (List.mem_of_getElem? (i := 181) (by decide +kernel))) rfl
theorem kX1_52 : Cond.constantLong RX1 52 (-1000000000000) ∈ zWS := zin (tb3 (List.mem_of_getElem? (i := 182) (by decide +kernel))) rfl
theorem lX1_46 : Cond.methodLink RX1 46 yX1_valueOf ∈ zWS := zin (tb3 (List.mem_of_getElem? (i := 183) (by decide +kernel))) rfl
theorem lL_167 : Cond.methodLink RL 167 yX9_count ∈ zWS := zin (tb3 (List.mem_of_getElem? (i := 187) (by decide +kernel))) rfl
theorem lX9_218 : Cond.methodLink RX9 218 yX8_thingsThatAre ∈ zWS := zin (tb3 (List.mem_of_getElem? (i := 191) (by decide +kernel))) rfl
theorem lX9_221 : Cond.methodLink RX9 221 yX8_menThatAre ∈ zWS := zin (tb3 (List.mem_of_getElem? (i := 195) (by decide +kernel))) rfl
theorem lX9_230 : Cond.methodLink RX9 230 yX8_savedWorth ∈ zWS := zin (tb3 (List.mem_of_getElem? (i := 199) (by decide +kernel))) rfl
theorem lX9_237 : Cond.methodLink RX9 237 yX4_knownSize ∈ zWS := zin (tb3 (List.mem_of_getElem? (i := 203) (by decide +kernel))) rfl
theorem lL_58 : Cond.methodLink RL 58 yX9_pay ∈ zWS := zin (tb3 (List.mem_of_getElem? (i := 207) (by decide +kernel))) rfl
theorem lX9_240 : Cond.methodLink RX9 240 yX0_note ∈ zWS := zin (tb3 (List.mem_of_getElem? (i := 211) (by decide +kernel))) rfl
theorem lX0_25 : Cond.methodLink RX0 25 yX0_forgetFirst ∈ zWS := zin (tb3 (List.mem_of_getElem? (i := 215) (by decide +kernel))) rfl
theorem lL_62 : Cond.methodLink RL 62 yX9_swap ∈ zWS := zin (tb3 (List.mem_of_getElem? (i := 219) (by decide +kernel))) rfl
theorem lX9_243 : Cond.methodLink RX9 243 yX9_areTwo ∈ zWS := zin (tb3 (List.mem_of_getElem? (i := 223) (by decide +kernel))) rfl
theorem lX9_247 : Cond.methodLink RX9 247 yX8_changePlaces ∈ zWS := zin (tb3 (List.mem_of_getElem? (i := 227) (by decide +kernel))) rfl
theorem lX8_93 : Cond.methodLink RX8 93 yX8_placeOf ∈ zWS := zin (tb3 (List.mem_of_getElem? (i := 231) (by decide +kernel))) rfl
theorem lL_67 : Cond.methodLink RL 67 yX9_hold ∈ zWS := zin (tb3 (List.mem_of_getElem? (i := 235) (by decide +kernel))) rfl
theorem lL_72 : Cond.methodLink RL 72 yX9_wet ∈ zWS := zin (tb3 (List.mem_of_getElem? (i := 239) (by decide +kernel))) rfl
theorem lL_155 : Cond.methodLink RL 155 yX9_undo ∈ zWS := zin (tb4 (List.mem_of_getElem? (i := 4) (by decide +kernel))) rfl
theorem lX9_265 : Cond.methodLink RX9 265 yX9_undoWetting ∈ zWS := zin (tb4 (List.mem_of_getElem? (i := 8) (by decide +kernel))) rfl
theorem lX9_268 : Cond.methodLink RX9 268 yX9_undoToMan ∈ zWS := zin (tb4 (List.mem_of_getElem? (i := 12) (by decide +kernel))) rfl
theorem lL_76 : Cond.methodLink RL 76 yX9_go ∈ zWS := zin (tb4 (List.mem_of_getElem? (i := 16) (by decide +kernel))) rfl
theorem lX9_271 : Cond.methodLink RX9 271 yX8_pass ∈ zWS := zin (tb4 (List.mem_of_getElem? (i := 20) (by decide +kernel))) rfl
theorem lX8_129 : Cond.methodLink RX8 129 yX8_payLooks ∈ zWS := zin (tb4 (List.mem_of_getElem? (i := 24) (by decide +kernel))) rfl
theorem lX8_157 : Cond.methodLink RX8 157 yX8_payLook ∈ zWS := zin (tb4 (List.mem_of_getElem? (i := 28) (by decide +kernel))) rfl
theorem lX8_132 : Cond.methodLink RX8 132 yX8_sendMan ∈ zWS := zin (tb4 (List.mem_of_getElem? (i := 32) (by decide +kernel))) rfl
theorem lX8_160 : Cond.methodLink RX8 160 yX8_freeThing ∈ zWS := zin (tb4 (List.mem_of_getElem? (i := 36) (by decide +kernel))) rfl
theorem lX8_164 : Cond.methodLink RX8 164 yX8_dares ∈ zWS := zin (tb4 (List.mem_of_getElem? (i := 37) (by decide +kernel))) rfl
theorem lX8_119 : Cond.methodLink RX8 119 yX8_setFacts ∈ zWS := zin (tb4 (List.mem_of_getElem? (i := 41) (by decide +kernel))) rfl
theorem lX8_123 : Cond.methodLink RX8 123 yX1_work ∈ zWS := zin (tb4 (List.mem_of_getElem? (i := 42) (by decide +kernel))) rfl
theorem kX8_127 : Cond.constantLong RX8 127 (-9223372036854775808) ∈ zWS := zin (tb4 (List.mem_of_getElem? (i := 43) (by decide +kernel))) rfl
theorem lX8_136 : Cond.methodLink RX8 136 yX8_moveMan ∈ zWS := zin (tb4 (List.mem_of_getElem? (i := 44) (by decide +kernel))) rfl
theorem lX8_168 : Cond.methodLink RX8 168 yX8_isHurt ∈ zWS := zin (tb4 (List.mem_of_getElem? (i := 48) (by decide +kernel))) rfl
theorem lX8_177 : Cond.methodLink RX8 177 yX8_comesTrue ∈ zWS := zin (tb4 (List.mem_of_getElem? (i := 52) (by decide +kernel))) rfl
theorem kX8_199 : Cond.constantLong RX8 199 (100) ∈ zWS := zin (tb4 (List.mem_of_getElem? (i := 56) (by decide +kernel))) rfl
theorem kX8_201 : Cond.constantLong RX8 201 (50) ∈ zWS := zin (tb4 (List.mem_of_getElem? (i := 57) (by decide +kernel))) rfl
theorem kX8_203 : Cond.constant RX8 203 (1103515245) ∈ zWS := zin (tb4 (List.mem_of_getElem? (i := 58) (by decide +kernel))) rfl
theorem kX8_204 : Cond.constant RX8 204 (2147483647) ∈ zWS := zin (tb4 (List.mem_of_getElem? (i := 59) (by decide +kernel))) rfl
theorem lX8_171 : Cond.methodLink RX8 171 yX8_leaveThing ∈ zWS := zin (tb4 (List.mem_of_getElem? (i := 60) (by decide +kernel))) rfl
theorem lX8_174 : Cond.methodLink RX8 174 yX8_saveThing ∈ zWS := zin (tb4 (List.mem_of_getElem? (i := 64) (by decide +kernel))) rfl
theorem kX8_187 : Cond.constantLong RX8 187 (-9) ∈ zWS := zin (tb4 (List.mem_of_getElem? (i := 69) (by decide +kernel))) rfl
theorem kX8_189 : Cond.constantLong RX8 189 (9) ∈ zWS := zin (tb4 (List.mem_of_getElem? (i := 70) (by decide +kernel))) rfl
theorem lX8_140 : Cond.methodLink RX8 140 yX8_burnThings ∈ zWS := zin (tb4 (List.mem_of_getElem? (i := 78) (by decide +kernel))) rfl
theorem lX8_143 : Cond.methodLink RX8 143 yX8_growHeat ∈ zWS := zin (tb4 (List.mem_of_getElem? (i := 82) (by decide +kernel))) rfl
theorem lL_159 : Cond.methodLink RL 159 yX9_keep ∈ zWS := zin (tb4 (List.mem_of_getElem? (i := 86) (by decide +kernel))) rfl
theorem lX9_275 : Cond.methodLink RX9 275 yX8_become ∈ zWS := zin (tb4 (List.mem_of_getElem? (i := 90) (by decide +kernel))) rfl
theorem lL_163 : Cond.methodLink RL 163 yX9_back ∈ zWS := zin (tb4 (List.mem_of_getElem? (i := 95) (by decide +kernel))) rfl
theorem lL_80 : Cond.methodLink RL 80 yX9_ahead ∈ zWS := zin (tb4 (List.mem_of_getElem? (i := 99) (by decide +kernel))) rfl
theorem lX9_279 : Cond.methodLink RX9 279 yX9_isCount ∈ zWS := zin (tb4 (List.mem_of_getElem? (i := 103) (by decide +kernel))) rfl
theorem lL_84 : Cond.methodLink RL 84 yX9_goes ∈ zWS := zin (tb4 (List.mem_of_getElem? (i := 106) (by decide +kernel))) rfl
theorem lL_88 : Cond.methodLink RL 88 yX9_out ∈ zWS := zin (tb4 (List.mem_of_getElem? (i := 110) (by decide +kernel))) rfl
theorem lL_151 : Cond.methodLink RL 151 yX9_tried ∈ zWS := zin (tb4 (List.mem_of_getElem? (i := 114) (by decide +kernel))) rfl
theorem lX9_285 : Cond.methodLink RX9 285 yX9_wayTried ∈ zWS := zin (tb4 (List.mem_of_getElem? (i := 118) (by decide +kernel))) rfl
theorem lL_147 : Cond.methodLink RL 147 yX9_chance ∈ zWS := zin (tb4 (List.mem_of_getElem? (i := 121) (by decide +kernel))) rfl
theorem lL_92 : Cond.methodLink RL 92 yX9_premium ∈ zWS := zin (tb4 (List.mem_of_getElem? (i := 125) (by decide +kernel))) rfl
theorem lX9_291 : Cond.methodLink RX9 291 yX9_premiumOf ∈ zWS := zin (tb4 (List.mem_of_getElem? (i := 129) (by decide +kernel))) rfl
theorem lX9_294 : Cond.methodLink RX9 294 yX8_dares ∈ zWS := zin (tb4 (List.mem_of_getElem? (i := 133) (by decide +kernel))) rfl
theorem lL_96 : Cond.methodLink RL 96 yX9_cover ∈ zWS := zin (tb4 (List.mem_of_getElem? (i := 134) (by decide +kernel))) rfl
theorem lX9_298 : Cond.methodLink RX9 298 yX9_sortPremiums ∈ zWS := zin (tb4 (List.mem_of_getElem? (i := 138) (by decide +kernel))) rfl
theorem lX9_301 : Cond.methodLink RX9 301 yX9_putInOrder ∈ zWS := zin (tb4 (List.mem_of_getElem? (i := 142) (by decide +kernel))) rfl
theorem lL_100 : Cond.methodLink RL 100 yX9_match ∈ zWS := zin (tb4 (List.mem_of_getElem? (i := 145) (by decide +kernel))) rfl
theorem lX9_305 : Cond.methodLink RX9 305 yX2_solve ∈ zWS := zin (tb4 (List.mem_of_getElem? (i := 149) (by decide +kernel))) rfl
theorem lX2_39 : Cond.methodLink RX2 39 yX2_mostOf ∈ zWS := zin (tb4 (List.mem_of_getElem? (i := 154) (by decide +kernel))) rfl
theorem lX2_47 : Cond.methodLink RX2 47 yX2_mayHave ∈ zWS := zin (tb4 (List.mem_of_getElem? (i := 158) (by decide +kernel))) rfl
theorem lX2_51 : Cond.methodLink RX2 51 yX2_worthWith ∈ zWS := zin (tb4 (List.mem_of_getElem? (i := 161) (by decide +kernel))) rfl
theorem lX2_43 : Cond.methodLink RX2 43 yX2_choose ∈ zWS := zin (tb4 (List.mem_of_getElem? (i := 166) (by decide +kernel))) rfl
theorem lX2_73 : Cond.methodLink RX2 73 yX2_firstOf ∈ zWS := zin (tb4 (List.mem_of_getElem? (i := 170) (by decide +kernel))) rfl
theorem lL_125 : Cond.methodLink RL 125 yX9_next ∈ zWS := zin (tb4 (List.mem_of_getElem? (i := 174) (by decide +kernel))) rfl
theorem lL_104 : Cond.methodLink RL 104 yX9_order ∈ zWS := zin (tb4 (List.mem_of_getElem? (i := 178) (by decide +kernel))) rfl
theorem lX9_315 : Cond.methodLink RX9 315 yX9_worthOfRow ∈ zWS := zin (tb4 (List.mem_of_getElem? (i := 182) (by decide +kernel))) rfl
theorem lX9_324 : Cond.methodLink RX9 324 yX9_turnRow ∈ zWS := zin (tb4 (List.mem_of_getElem? (i := 187) (by decide +kernel))) rfl
theorem lX9_327 : Cond.methodLink RX9 327 yX9_changeInRow ∈ zWS := zin (tb4 (List.mem_of_getElem? (i := 191) (by decide +kernel))) rfl
theorem lL_108 : Cond.methodLink RL 108 yX9_rests ∈ zWS := zin (tb4 (List.mem_of_getElem? (i := 195) (by decide +kernel))) rfl
theorem lX9_330 : Cond.methodLink RX9 330 yX9_isRest ∈ zWS := zin (tb4 (List.mem_of_getElem? (i := 199) (by decide +kernel))) rfl
theorem lX9_333 : Cond.methodLink RX9 333 yX9_gain ∈ zWS := zin (tb4 (List.mem_of_getElem? (i := 203) (by decide +kernel))) rfl
theorem lL_112 : Cond.methodLink RL 112 yX9_rest ∈ zWS := zin (tb4 (List.mem_of_getElem? (i := 207) (by decide +kernel))) rfl
theorem lL_117 : Cond.methodLink RL 117 yX9_comesBack ∈ zWS := zin (tb4 (List.mem_of_getElem? (i := 211) (by decide +kernel))) rfl
theorem kX9_337 : Cond.constantLong RX9 337 (-1) ∈ zWS := zin (tb4 (List.mem_of_getElem? (i := 215) (by decide +kernel))) rfl
theorem lX9_342 : Cond.methodLink RX9 342 yX9_commonDivisor ∈ zWS := zin (tb4 (List.mem_of_getElem? (i := 216) (by decide +kernel))) rfl
theorem lL_121 : Cond.methodLink RL 121 yX9_widow ∈ zWS := zin (tb4 (List.mem_of_getElem? (i := 219) (by decide +kernel))) rfl
theorem lL_129 : Cond.methodLink RL 129 yX9_see ∈ zWS := zin (tb4 (List.mem_of_getElem? (i := 223) (by decide +kernel))) rfl
theorem lX9_345 : Cond.methodLink RX9 345 yX4_note ∈ zWS := zin (tb4 (List.mem_of_getElem? (i := 227) (by decide +kernel))) rfl
theorem lL_134 : Cond.methodLink RL 134 yX9_strike ∈ zWS := zin (tb4 (List.mem_of_getElem? (i := 231) (by decide +kernel))) rfl
theorem lL_138 : Cond.methodLink RL 138 yX9_known ∈ zWS := zin (tb4 (List.mem_of_getElem? (i := 235) (by decide +kernel))) rfl
theorem lL_143 : Cond.methodLink RL 143 yX9_rues ∈ zWS := zin (tb4 (List.mem_of_getElem? (i := 239) (by decide +kernel))) rfl
theorem lX9_351 : Cond.methodLink RX9 351 yX4_markKnown ∈ zWS := zin (tb5 (List.mem_of_getElem? (i := 3) (by decide +kernel))) rfl
theorem lX4_35 : Cond.methodLink RX4 35 yX4_knownSize ∈ zWS := zin (tb5 (List.mem_of_getElem? (i := 7) (by decide +kernel))) rfl
theorem lX9_354 : Cond.methodLink RX9 354 yX9_agrees ∈ zWS := zin (tb5 (List.mem_of_getElem? (i := 10) (by decide +kernel))) rfl
theorem lX9_357 : Cond.methodLink RX9 357 yX4_fits ∈ zWS := zin (tb5 (List.mem_of_getElem? (i := 14) (by decide +kernel))) rfl
theorem lL_39 : Cond.methodLink RL 39 yL_man ∈ zWS := zin (tb5 (List.mem_of_getElem? (i := 18) (by decide +kernel))) rfl
theorem lL_7 : Cond.methodLink RL 7 yX9_man ∈ zWS := zin (tb5 (List.mem_of_getElem? (i := 23) (by decide +kernel))) rfl
theorem lX9_161 : Cond.methodLink RX9 161 yX8_placeOf ∈ zWS := zin (tb5 (List.mem_of_getElem? (i := 93) (by decide +kernel))) rfl
theorem lL_20 : Cond.methodLink RL 20 yX10_init ∈ zWS := zin (tb5 (List.mem_of_getElem? (i := 112) (by decide +kernel))) rfl
theorem lX10_151 : Cond.methodLink RX10 151 yX10_begins ∈ zWS := zin (tb5 (List.mem_of_getElem? (i := 116) (by decide +kernel))) rfl
theorem lX10_334 : Cond.methodLink RX10 334 yX10_starts ∈ zWS := zin (tb5 (List.mem_of_getElem? (i := 120) (by decide +kernel))) rfl
theorem fX10_154 : zFld RX10 154 9 0 := ⟨RX10, TX10, 68, rfl, by decide, uX10, zin (tb5 (List.mem_of_getElem? (i := 124) (by decide +kernel))) rfl⟩
theorem pX10_154 : zFldP RX10 154 9 0 (.int) := ⟨RX10, TX10, 68, tyX10, ⟨rfl, by decide, uX10, zin (tb5 (List.mem_of_getElem? (i := 124) (by decide +kernel))) rfl⟩, tyX10_ok, nmX10, rfl, by decide +kernel⟩
theorem fX10_7 : zFld RX10 7 9 1 := ⟨RX10, TX10, 68, rfl, by decide, uX10, zin (tb5 (List.mem_of_getElem? (i := 125) (by decide +kernel))) rfl⟩
theorem fX10_157 : zFld RX10 157 9 2 := ⟨RX10, TX10, 68, rfl, by decide, uX10, zin (tb5 (List.mem_of_getElem? (i := 126) (by decide +kernel))) rfl⟩
theorem pX10_157 : zFldP RX10 157 9 2 (.int) := ⟨RX10, TX10, 68, tyX10, ⟨rfl, by decide, uX10, zin (tb5 (List.mem_of_getElem? (i := 126) (by decide +kernel))) rfl⟩, tyX10_ok, nmX10, rfl, by decide +kernel⟩
theorem fX10_13 : zFld RX10 13 9 3 := ⟨RX10, TX10, 68, rfl, by decide, uX10, zin (tb5 (List.mem_of_getElem? (i := 127) (by decide +kernel))) rfl⟩
theorem fX10_16 : zFld RX10 16 9 4 := ⟨RX10, TX10, 68, rfl, by decide, uX10, zin (tb5 (List.mem_of_getElem? (i := 128) (by decide +kernel))) rfl⟩
theorem fX10_19 : zFld RX10 19 9 5 := ⟨RX10, TX10, 68, rfl, by decide, uX10, zin (tb5 (List.mem_of_getElem? (i := 129) (by decide +kernel))) rfl⟩
theorem fX10_22 : zFld RX10 22 9 6 := ⟨RX10, TX10, 68, rfl, by decide, uX10, zin (tb5 (List.mem_of_getElem? (i := 130) (by decide +kernel))) rfl⟩
theorem fX10_25 : zFld RX10 25 9 7 := ⟨RX10, TX10, 68, rfl, by decide, uX10, zin (tb5 (List.mem_of_getElem? (i := 131) (by decide +kernel))) rfl⟩
theorem fX10_28 : zFld RX10 28 9 8 := ⟨RX10, TX10, 68, rfl, by decide, uX10, zin (tb5 (List.mem_of_getElem? (i := 132) (by decide +kernel))) rfl⟩
theorem fX10_31 : zFld RX10 31 9 9 := ⟨RX10, TX10, 68, rfl, by decide, uX10, zin (tb5 (List.mem_of_getElem? (i := 133) (by decide +kernel))) rfl⟩
theorem fX10_34 : zFld RX10 34 9 10 := ⟨RX10, TX10, 68, rfl, by decide, uX10, zin (tb5 (List.mem_of_getElem? (i := 134) (by decide +kernel))) rfl⟩
theorem fX10_37 : zFld RX10 37 9 11 := ⟨RX10, TX10, 68, rfl, by decide, uX10, zin (tb5 (List.mem_of_getElem? (i := 135) (by decide +kernel))) rfl⟩
theorem fX10_40 : zFld RX10 40 9 12 := ⟨RX10, TX10, 68, rfl, by decide, uX10, zin (tb5 (List.mem_of_getElem? (i := 136) (by decide +kernel))) rfl⟩
theorem fX10_43 : zFld RX10 43 9 13 := ⟨RX10, TX10, 68, rfl, by decide, uX10, zin (tb5 (List.mem_of_getElem? (i := 137) (by decide +kernel))) rfl⟩
theorem fX10_46 : zFld RX10 46 9 14 := ⟨RX10, TX10, 68, rfl, by decide, uX10, zin (tb5 (List.mem_of_getElem? (i := 138) (by decide +kernel))) rfl⟩
theorem fX10_49 : zFld RX10 49 9 15 := ⟨RX10, TX10, 68, rfl, by decide, uX10, zin (tb5 (List.mem_of_getElem? (i := 139) (by decide +kernel))) rfl⟩
theorem fX10_52 : zFld RX10 52 9 16 := ⟨RX10, TX10, 68, rfl, by decide, uX10, zin (tb5 (List.mem_of_getElem? (i := 140) (by decide +kernel))) rfl⟩
theorem fX10_55 : zFld RX10 55 9 17 := ⟨RX10, TX10, 68, rfl, by decide, uX10, zin (tb5 (List.mem_of_getElem? (i := 141) (by decide +kernel))) rfl⟩
theorem fX10_58 : zFld RX10 58 9 18 := ⟨RX10, TX10, 68, rfl, by decide, uX10, zin (tb5 (List.mem_of_getElem? (i := 142) (by decide +kernel))) rfl⟩
theorem fX10_234 : zFld RX10 234 9 19 := ⟨RX10, TX10, 68, rfl, by decide, uX10, zin (tb5 (List.mem_of_getElem? (i := 143) (by decide +kernel))) rfl⟩
theorem pX10_234 : zFldP RX10 234 9 19 (.int) := ⟨RX10, TX10, 68, tyX10, ⟨rfl, by decide, uX10, zin (tb5 (List.mem_of_getElem? (i := 143) (by decide +kernel))) rfl⟩, tyX10_ok, nmX10, rfl, by decide +kernel⟩
theorem fX10_258 : zFld RX10 258 9 20 := ⟨RX10, TX10, 68, rfl, by decide, uX10, zin (tb5 (List.mem_of_getElem? (i := 144) (by decide +kernel))) rfl⟩
theorem pX10_258 : zFldP RX10 258 9 20 (.int) := ⟨RX10, TX10, 68, tyX10, ⟨rfl, by decide, uX10, zin (tb5 (List.mem_of_getElem? (i := 144) (by decide +kernel))) rfl⟩, tyX10_ok, nmX10, rfl, by decide +kernel⟩
theorem fX10_163 : zFld RX10 163 9 21 := ⟨RX10, TX10, 68, rfl, by decide, uX10, zin (tb5 (List.mem_of_getElem? (i := 145) (by decide +kernel))) rfl⟩
theorem pX10_163 : zFldP RX10 163 9 21 (.int) := ⟨RX10, TX10, 68, tyX10, ⟨rfl, by decide, uX10, zin (tb5 (List.mem_of_getElem? (i := 145) (by decide +kernel))) rfl⟩, tyX10_ok, nmX10, rfl, by decide +kernel⟩
theorem fX10_160 : zFld RX10 160 9 22 := ⟨RX10, TX10, 68, rfl, by decide, uX10, zin (tb5 (List.mem_of_getElem? (i := 146) (by decide +kernel))) rfl⟩
theorem pX10_160 : zFldP RX10 160 9 22 (.int) := ⟨RX10, TX10, 68, tyX10, ⟨rfl, by decide, uX10, zin (tb5 (List.mem_of_getElem? (i := 146) (by decide +kernel))) rfl⟩, tyX10_ok, nmX10, rfl, by decide +kernel⟩
theorem fX10_170 : zFld RX10 170 9 23 := ⟨RX10, TX10, 68, rfl, by decide, uX10, zin (tb5 (List.mem_of_getElem? (i := 147) (by decide +kernel))) rfl⟩
theorem pX10_170 : zFldP RX10 170 9 23 (.int) := ⟨RX10, TX10, 68, tyX10, ⟨rfl, by decide, uX10, zin (tb5 (List.mem_of_getElem? (i := 147) (by decide +kernel))) rfl⟩, tyX10_ok, nmX10, rfl, by decide +kernel⟩
theorem fX10_173 : zFld RX10 173 9 24 := ⟨RX10, TX10, 68, rfl, by decide, uX10, zin (tb5 (List.mem_of_getElem? (i := 148) (by decide +kernel))) rfl⟩
theorem pX10_173 : zFldP RX10 173 9 24 (.int) := ⟨RX10, TX10, 68, tyX10, ⟨rfl, by decide, uX10, zin (tb5 (List.mem_of_getElem? (i := 148) (by decide +kernel))) rfl⟩, tyX10_ok, nmX10, rfl, by decide +kernel⟩
theorem fX10_183 : zFld RX10 183 9 25 := ⟨RX10, TX10, 68, rfl, by decide, uX10, zin (tb5 (List.mem_of_getElem? (i := 149) (by decide +kernel))) rfl⟩
theorem pX10_183 : zFldP RX10 183 9 25 (.int) := ⟨RX10, TX10, 68, tyX10, ⟨rfl, by decide, uX10, zin (tb5 (List.mem_of_getElem? (i := 149) (by decide +kernel))) rfl⟩, tyX10_ok, nmX10, rfl, by decide +kernel⟩
theorem fX10_208 : zFld RX10 208 9 26 := ⟨RX10, TX10, 68, rfl, by decide, uX10, zin (tb5 (List.mem_of_getElem? (i := 150) (by decide +kernel))) rfl⟩
theorem pX10_208 : zFldP RX10 208 9 26 (.int) := ⟨RX10, TX10, 68, tyX10, ⟨rfl, by decide, uX10, zin (tb5 (List.mem_of_getElem? (i := 150) (by decide +kernel))) rfl⟩, tyX10_ok, nmX10, rfl, by decide +kernel⟩
theorem fX10_211 : zFld RX10 211 9 27 := ⟨RX10, TX10, 68, rfl, by decide, uX10, zin (tb5 (List.mem_of_getElem? (i := 151) (by decide +kernel))) rfl⟩
theorem pX10_211 : zFldP RX10 211 9 27 (.int) := ⟨RX10, TX10, 68, tyX10, ⟨rfl, by decide, uX10, zin (tb5 (List.mem_of_getElem? (i := 151) (by decide +kernel))) rfl⟩, tyX10_ok, nmX10, rfl, by decide +kernel⟩
theorem fX10_297 : zFld RX10 297 9 28 := ⟨RX10, TX10, 68, rfl, by decide, uX10, zin (tb5 (List.mem_of_getElem? (i := 152) (by decide +kernel))) rfl⟩
theorem pX10_297 : zFldP RX10 297 9 28 (.int) := ⟨RX10, TX10, 68, tyX10, ⟨rfl, by decide, uX10, zin (tb5 (List.mem_of_getElem? (i := 152) (by decide +kernel))) rfl⟩, tyX10_ok, nmX10, rfl, by decide +kernel⟩
theorem fX10_61 : zFld RX10 61 9 29 := ⟨RX10, TX10, 68, rfl, by decide, uX10, zin (tb5 (List.mem_of_getElem? (i := 153) (by decide +kernel))) rfl⟩
theorem pX10_61 : zFldP RX10 61 9 29 (.int) := ⟨RX10, TX10, 68, tyX10, ⟨rfl, by decide, uX10, zin (tb5 (List.mem_of_getElem? (i := 153) (by decide +kernel))) rfl⟩, tyX10_ok, nmX10, rfl, by decide +kernel⟩
theorem fX10_291 : zFld RX10 291 9 30 := ⟨RX10, TX10, 68, rfl, by decide, uX10, zin (tb5 (List.mem_of_getElem? (i := 154) (by decide +kernel))) rfl⟩
theorem pX10_291 : zFldP RX10 291 9 30 (.int) := ⟨RX10, TX10, 68, tyX10, ⟨rfl, by decide, uX10, zin (tb5 (List.mem_of_getElem? (i := 154) (by decide +kernel))) rfl⟩, tyX10_ok, nmX10, rfl, by decide +kernel⟩
theorem fX10_264 : zFld RX10 264 9 31 := ⟨RX10, TX10, 68, rfl, by decide, uX10, zin (tb5 (List.mem_of_getElem? (i := 155) (by decide +kernel))) rfl⟩
theorem pX10_264 : zFldP RX10 264 9 31 (.int) := ⟨RX10, TX10, 68, tyX10, ⟨rfl, by decide, uX10, zin (tb5 (List.mem_of_getElem? (i := 155) (by decide +kernel))) rfl⟩, tyX10_ok, nmX10, rfl, by decide +kernel⟩
theorem fX10_65 : zFld RX10 65 9 32 := ⟨RX10, TX10, 68, rfl, by decide, uX10, zin (tb5 (List.mem_of_getElem? (i := 156) (by decide +kernel))) rfl⟩
theorem fX10_69 : zFld RX10 69 9 33 := ⟨RX10, TX10, 68, rfl, by decide, uX10, zin (tb5 (List.mem_of_getElem? (i := 157) (by decide +kernel))) rfl⟩
theorem fX10_314 : zFld RX10 314 9 34 := ⟨RX10, TX10, 68, rfl, by decide, uX10, zin (tb5 (List.mem_of_getElem? (i := 158) (by decide +kernel))) rfl⟩
theorem pX10_314 : zFldP RX10 314 9 34 (.int) := ⟨RX10, TX10, 68, tyX10, ⟨rfl, by decide, uX10, zin (tb5 (List.mem_of_getElem? (i := 158) (by decide +kernel))) rfl⟩, tyX10_ok, nmX10, rfl, by decide +kernel⟩
theorem fX10_72 : zFld RX10 72 9 35 := ⟨RX10, TX10, 68, rfl, by decide, uX10, zin (tb5 (List.mem_of_getElem? (i := 159) (by decide +kernel))) rfl⟩
theorem fX10_75 : zFld RX10 75 9 36 := ⟨RX10, TX10, 68, rfl, by decide, uX10, zin (tb5 (List.mem_of_getElem? (i := 160) (by decide +kernel))) rfl⟩
theorem fX10_78 : zFld RX10 78 9 37 := ⟨RX10, TX10, 68, rfl, by decide, uX10, zin (tb5 (List.mem_of_getElem? (i := 161) (by decide +kernel))) rfl⟩
theorem fX10_81 : zFld RX10 81 9 38 := ⟨RX10, TX10, 68, rfl, by decide, uX10, zin (tb5 (List.mem_of_getElem? (i := 162) (by decide +kernel))) rfl⟩
theorem fX10_84 : zFld RX10 84 9 39 := ⟨RX10, TX10, 68, rfl, by decide, uX10, zin (tb5 (List.mem_of_getElem? (i := 163) (by decide +kernel))) rfl⟩
theorem fX10_87 : zFld RX10 87 9 40 := ⟨RX10, TX10, 68, rfl, by decide, uX10, zin (tb5 (List.mem_of_getElem? (i := 164) (by decide +kernel))) rfl⟩
theorem fX10_90 : zFld RX10 90 9 41 := ⟨RX10, TX10, 68, rfl, by decide, uX10, zin (tb5 (List.mem_of_getElem? (i := 165) (by decide +kernel))) rfl⟩
theorem fX10_93 : zFld RX10 93 9 42 := ⟨RX10, TX10, 68, rfl, by decide, uX10, zin (tb5 (List.mem_of_getElem? (i := 166) (by decide +kernel))) rfl⟩
theorem fX10_96 : zFld RX10 96 9 43 := ⟨RX10, TX10, 68, rfl, by decide, uX10, zin (tb5 (List.mem_of_getElem? (i := 167) (by decide +kernel))) rfl⟩
theorem fX10_99 : zFld RX10 99 9 44 := ⟨RX10, TX10, 68, rfl, by decide, uX10, zin (tb5 (List.mem_of_getElem? (i := 168) (by decide +kernel))) rfl⟩
theorem fX10_102 : zFld RX10 102 9 45 := ⟨RX10, TX10, 68, rfl, by decide, uX10, zin (tb5 (List.mem_of_getElem? (i := 169) (by decide +kernel))) rfl⟩
theorem fX10_105 : zFld RX10 105 9 46 := ⟨RX10, TX10, 68, rfl, by decide, uX10, zin (tb5 (List.mem_of_getElem? (i := 170) (by decide +kernel))) rfl⟩
theorem fX10_108 : zFld RX10 108 9 47 := ⟨RX10, TX10, 68, rfl, by decide, uX10, zin (tb5 (List.mem_of_getElem? (i := 171) (by decide +kernel))) rfl⟩
theorem fX10_111 : zFld RX10 111 9 48 := ⟨RX10, TX10, 68, rfl, by decide, uX10, zin (tb5 (List.mem_of_getElem? (i := 172) (by decide +kernel))) rfl⟩
theorem fX10_307 : zFld RX10 307 9 49 := ⟨RX10, TX10, 68, rfl, by decide, uX10, zin (tb5 (List.mem_of_getElem? (i := 173) (by decide +kernel))) rfl⟩
theorem pX10_307 : zFldP RX10 307 9 49 (.boolean) := ⟨RX10, TX10, 68, tyX10, ⟨rfl, by decide, uX10, zin (tb5 (List.mem_of_getElem? (i := 173) (by decide +kernel))) rfl⟩, tyX10_ok, nmX10, rfl, by decide +kernel⟩
theorem fX10_311 : zFld RX10 311 9 50 := ⟨RX10, TX10, 68, rfl, by decide, uX10, zin (tb5 (List.mem_of_getElem? (i := 174) (by decide +kernel))) rfl⟩
theorem pX10_311 : zFldP RX10 311 9 50 (.int) := ⟨RX10, TX10, 68, tyX10, ⟨rfl, by decide, uX10, zin (tb5 (List.mem_of_getElem? (i := 174) (by decide +kernel))) rfl⟩, tyX10_ok, nmX10, rfl, by decide +kernel⟩
theorem fX10_360 : zFld RX10 360 9 51 := ⟨RX10, TX10, 68, rfl, by decide, uX10, zin (tb5 (List.mem_of_getElem? (i := 175) (by decide +kernel))) rfl⟩
theorem pX10_360 : zFldP RX10 360 9 51 (.int) := ⟨RX10, TX10, 68, tyX10, ⟨rfl, by decide, uX10, zin (tb5 (List.mem_of_getElem? (i := 175) (by decide +kernel))) rfl⟩, tyX10_ok, nmX10, rfl, by decide +kernel⟩
theorem fX10_114 : zFld RX10 114 9 52 := ⟨RX10, TX10, 68, rfl, by decide, uX10, zin (tb5 (List.mem_of_getElem? (i := 176) (by decide +kernel))) rfl⟩
theorem pX10_114 : zFldP RX10 114 9 52 (.int) := ⟨RX10, TX10, 68, tyX10, ⟨rfl, by decide, uX10, zin (tb5 (List.mem_of_getElem? (i := 176) (by decide +kernel))) rfl⟩, tyX10_ok, nmX10, rfl, by decide +kernel⟩
theorem fX10_367 : zFld RX10 367 9 53 := ⟨RX10, TX10, 68, rfl, by decide, uX10, zin (tb5 (List.mem_of_getElem? (i := 177) (by decide +kernel))) rfl⟩
theorem pX10_367 : zFldP RX10 367 9 53 (.int) := ⟨RX10, TX10, 68, tyX10, ⟨rfl, by decide, uX10, zin (tb5 (List.mem_of_getElem? (i := 177) (by decide +kernel))) rfl⟩, tyX10_ok, nmX10, rfl, by decide +kernel⟩
theorem fX10_117 : zFld RX10 117 9 54 := ⟨RX10, TX10, 68, rfl, by decide, uX10, zin (tb5 (List.mem_of_getElem? (i := 178) (by decide +kernel))) rfl⟩
theorem fX10_120 : zFld RX10 120 9 55 := ⟨RX10, TX10, 68, rfl, by decide, uX10, zin (tb5 (List.mem_of_getElem? (i := 179) (by decide +kernel))) rfl⟩
theorem fX10_123 : zFld RX10 123 9 56 := ⟨RX10, TX10, 68, rfl, by decide, uX10, zin (tb5 (List.mem_of_getElem? (i := 180) (by decide +kernel))) rfl⟩
theorem fX10_444 : zFld RX10 444 9 57 := ⟨RX10, TX10, 68, rfl, by decide, uX10, zin (tb5 (List.mem_of_getElem? (i := 181) (by decide +kernel))) rfl⟩
theorem pX10_444 : zFldP RX10 444 9 57 (.int) := ⟨RX10, TX10, 68, tyX10, ⟨rfl, by decide, uX10, zin (tb5 (List.mem_of_getElem? (i := 181) (by decide +kernel))) rfl⟩, tyX10_ok, nmX10, rfl, by decide +kernel⟩
theorem fX10_126 : zFld RX10 126 9 58 := ⟨RX10, TX10, 68, rfl, by decide, uX10, zin (tb5 (List.mem_of_getElem? (i := 182) (by decide +kernel))) rfl⟩
theorem fX10_129 : zFld RX10 129 9 59 := ⟨RX10, TX10, 68, rfl, by decide, uX10, zin (tb5 (List.mem_of_getElem? (i := 183) (by decide +kernel))) rfl⟩
theorem fX10_456 : zFld RX10 456 9 60 := ⟨RX10, TX10, 68, rfl, by decide, uX10, zin (tb5 (List.mem_of_getElem? (i := 184) (by decide +kernel))) rfl⟩
theorem pX10_456 : zFldP RX10 456 9 60 (.int) := ⟨RX10, TX10, 68, tyX10, ⟨rfl, by decide, uX10, zin (tb5 (List.mem_of_getElem? (i := 184) (by decide +kernel))) rfl⟩, tyX10_ok, nmX10, rfl, by decide +kernel⟩
theorem fX10_304 : zFld RX10 304 9 61 := ⟨RX10, TX10, 68, rfl, by decide, uX10, zin (tb5 (List.mem_of_getElem? (i := 185) (by decide +kernel))) rfl⟩
theorem pX10_304 : zFldP RX10 304 9 61 (.int) := ⟨RX10, TX10, 68, tyX10, ⟨rfl, by decide, uX10, zin (tb5 (List.mem_of_getElem? (i := 185) (by decide +kernel))) rfl⟩, tyX10_ok, nmX10, rfl, by decide +kernel⟩
theorem fX10_132 : zFld RX10 132 9 62 := ⟨RX10, TX10, 68, rfl, by decide, uX10, zin (tb5 (List.mem_of_getElem? (i := 186) (by decide +kernel))) rfl⟩
theorem pX10_132 : zFldP RX10 132 9 62 (.int) := ⟨RX10, TX10, 68, tyX10, ⟨rfl, by decide, uX10, zin (tb5 (List.mem_of_getElem? (i := 186) (by decide +kernel))) rfl⟩, tyX10_ok, nmX10, rfl, by decide +kernel⟩
theorem fX10_135 : zFld RX10 135 9 63 := ⟨RX10, TX10, 68, rfl, by decide, uX10, zin (tb5 (List.mem_of_getElem? (i := 187) (by decide +kernel))) rfl⟩
theorem fX10_138 : zFld RX10 138 9 64 := ⟨RX10, TX10, 68, rfl, by decide, uX10, zin (tb5 (List.mem_of_getElem? (i := 188) (by decide +kernel))) rfl⟩
theorem fX10_141 : zFld RX10 141 9 65 := ⟨RX10, TX10, 68, rfl, by decide, uX10, zin (tb5 (List.mem_of_getElem? (i := 189) (by decide +kernel))) rfl⟩
theorem fX10_145 : zFld RX10 145 9 66 := ⟨RX10, TX10, 68, rfl, by decide, uX10, zin (tb5 (List.mem_of_getElem? (i := 190) (by decide +kernel))) rfl⟩
theorem fX10_148 : zFld RX10 148 9 67 := ⟨RX10, TX10, 68, rfl, by decide, uX10, zin (tb5 (List.mem_of_getElem? (i := 191) (by decide +kernel))) rfl⟩
theorem lL_45 : Cond.methodLink RL 45 yX10_thrown ∈ zWS := zin (tb6 (List.mem_of_getElem? (i := 89) (by decide +kernel))) rfl
theorem lL_25 : Cond.methodLink RL 25 yX10_feed ∈ zWS := zin (tb6 (List.mem_of_getElem? (i := 93) (by decide +kernel))) rfl
theorem lL_30 : Cond.methodLink RL 30 yX10_text ∈ zWS := zin (tb6 (List.mem_of_getElem? (i := 97) (by decide +kernel))) rfl
theorem lX10_245 : Cond.methodLink RX10 245 yX10_reads ∈ zWS := zin (tb6 (List.mem_of_getElem? (i := 101) (by decide +kernel))) rfl
theorem lX10_214 : Cond.methodLink RX10 214 yX10_token ∈ zWS := zin (tb6 (List.mem_of_getElem? (i := 105) (by decide +kernel))) rfl
theorem lX10_166 : Cond.methodLink RX10 166 yX10_here ∈ zWS := zin (tb6 (List.mem_of_getElem? (i := 109) (by decide +kernel))) rfl
theorem lX10_176 : Cond.methodLink RX10 176 yX10_isSmall ∈ zWS := zin (tb6 (List.mem_of_getElem? (i := 113) (by decide +kernel))) rfl
theorem lX10_180 : Cond.methodLink RX10 180 yX10_word ∈ zWS := zin (tb6 (List.mem_of_getElem? (i := 116) (by decide +kernel))) rfl
theorem lX10_186 : Cond.methodLink RX10 186 yX10_name ∈ zWS := zin (tb6 (List.mem_of_getElem? (i := 169) (by decide +kernel))) rfl
theorem lX10_189 : Cond.methodLink RX10 189 yX10_isDigit ∈ zWS := zin (tb6 (List.mem_of_getElem? (i := 173) (by decide +kernel))) rfl
theorem kX10_192 : Cond.constant RX10 192 (99999) ∈ zWS := zin (tb6 (List.mem_of_getElem? (i := 176) (by decide +kernel))) rfl
theorem lX10_193 : Cond.methodLink RX10 193 yX10_sign ∈ zWS := zin (tb6 (List.mem_of_getElem? (i := 177) (by decide +kernel))) rfl
theorem lX10_294 : Cond.methodLink RX10 294 yX10_line ∈ zWS := zin (tb6 (List.mem_of_getElem? (i := 181) (by decide +kernel))) rfl
theorem lX10_217 : Cond.methodLink RX10 217 yX10_wrong ∈ zWS := zin (tb6 (List.mem_of_getElem? (i := 185) (by decide +kernel))) rfl
theorem lX10_231 : Cond.methodLink RX10 231 yX10_isFull ∈ zWS := zin (tb6 (List.mem_of_getElem? (i := 189) (by decide +kernel))) rfl
theorem lX10_224 : Cond.methodLink RX10 224 yX10_fresher ∈ zWS := zin (tb6 (List.mem_of_getElem? (i := 193) (by decide +kernel))) rfl
theorem lX10_237 : Cond.methodLink RX10 237 yX10_fresh ∈ zWS := zin (tb6 (List.mem_of_getElem? (i := 197) (by decide +kernel))) rfl
theorem lX10_220 : Cond.methodLink RX10 220 yX10_found ∈ zWS := zin (tb6 (List.mem_of_getElem? (i := 201) (by decide +kernel))) rfl
theorem lX10_241 : Cond.methodLink RX10 241 yX10_numeral ∈ zWS := zin (tb6 (List.mem_of_getElem? (i := 204) (by decide +kernel))) rfl
theorem lX10_249 : Cond.methodLink RX10 249 yX10_manAhead ∈ zWS := zin (tb6 (List.mem_of_getElem? (i := 208) (by decide +kernel))) rfl
theorem lX10_228 : Cond.methodLink RX10 228 yX10_goOn ∈ zWS := zin (tb6 (List.mem_of_getElem? (i := 212) (by decide +kernel))) rfl
theorem lX10_252 : Cond.methodLink RX10 252 yX10_lawLine ∈ zWS := zin (tb6 (List.mem_of_getElem? (i := 216) (by decide +kernel))) rfl
theorem lX10_261 : Cond.methodLink RX10 261 yX10_expression ∈ zWS := zin (tb6 (List.mem_of_getElem? (i := 220) (by decide +kernel))) rfl
theorem lX10_267 : Cond.methodLink RX10 267 yX10_conjunction ∈ zWS := zin (tb6 (List.mem_of_getElem? (i := 224) (by decide +kernel))) rfl
theorem lX10_279 : Cond.methodLink RX10 279 yX10_negation ∈ zWS := zin (tb6 (List.mem_of_getElem? (i := 228) (by decide +kernel))) rfl
theorem lX10_270 : Cond.methodLink RX10 270 yX10_isWord ∈ zWS := zin (tb6 (List.mem_of_getElem? (i := 232) (by decide +kernel))) rfl
theorem lX10_273 : Cond.methodLink RX10 273 yX10_knot ∈ zWS := zin (tb6 (List.mem_of_getElem? (i := 236) (by decide +kernel))) rfl
theorem lX10_276 : Cond.methodLink RX10 276 yX10_puts ∈ zWS := zin (tb7 (List.mem_of_getElem? (i := 0) (by decide +kernel))) rfl
theorem lX10_282 : Cond.methodLink RX10 282 yX10_sum ∈ zWS := zin (tb7 (List.mem_of_getElem? (i := 4) (by decide +kernel))) rfl
theorem lX10_285 : Cond.methodLink RX10 285 yX10_product ∈ zWS := zin (tb7 (List.mem_of_getElem? (i := 8) (by decide +kernel))) rfl
theorem lX10_288 : Cond.methodLink RX10 288 yX10_primary ∈ zWS := zin (tb7 (List.mem_of_getElem? (i := 12) (by decide +kernel))) rfl
theorem lX10_255 : Cond.methodLink RX10 255 yX10_isSign ∈ zWS := zin (tb7 (List.mem_of_getElem? (i := 16) (by decide +kernel))) rfl
theorem lX10_300 : Cond.methodLink RX10 300 yX10_half ∈ zWS := zin (tb7 (List.mem_of_getElem? (i := 20) (by decide +kernel))) rfl
theorem lL_34 : Cond.methodLink RL 34 yX10_fault ∈ zWS := zin (tb7 (List.mem_of_getElem? (i := 23) (by decide +kernel))) rfl
theorem lL_38 : Cond.methodLink RL 38 yX10_named ∈ zWS := zin (tb7 (List.mem_of_getElem? (i := 27) (by decide +kernel))) rfl
theorem lL_44 : Cond.methodLink RL 44 yX10_man ∈ zWS := zin (tb7 (List.mem_of_getElem? (i := 31) (by decide +kernel))) rfl
theorem lX10_413 : Cond.methodLink RX10 413 yX10_isMan ∈ zWS := zin (tb7 (List.mem_of_getElem? (i := 35) (by decide +kernel))) rfl
theorem lX10_416 : Cond.methodLink RX10 416 yX10_orNone ∈ zWS := zin (tb7 (List.mem_of_getElem? (i := 39) (by decide +kernel))) rfl
theorem lX10_419 : Cond.methodLink RX10 419 yX10_placeOf ∈ zWS := zin (tb7 (List.mem_of_getElem? (i := 42) (by decide +kernel))) rfl
theorem lL_52 : Cond.methodLink RL 52 yX10_thing ∈ zWS := zin (tb7 (List.mem_of_getElem? (i := 46) (by decide +kernel))) rfl
theorem lX10_422 : Cond.methodLink RX10 422 yX10_isThing ∈ zWS := zin (tb7 (List.mem_of_getElem? (i := 50) (by decide +kernel))) rfl
theorem lX10_337 : Cond.methodLink RX10 337 yX10_goerOf ∈ zWS := zin (tb7 (List.mem_of_getElem? (i := 54) (by decide +kernel))) rfl
theorem lL_57 : Cond.methodLink RL 57 yX10_law ∈ zWS := zin (tb7 (List.mem_of_getElem? (i := 58) (by decide +kernel))) rfl
theorem lX10_344 : Cond.methodLink RX10 344 yX10_hasLaw ∈ zWS := zin (tb7 (List.mem_of_getElem? (i := 62) (by decide +kernel))) rfl
theorem kX10_427 : Cond.constantLong RX10 427 (-9223372036854775808) ∈ zWS := zin (tb7 (List.mem_of_getElem? (i := 66) (by decide +kernel))) rfl
theorem lX10_357 : Cond.methodLink RX10 357 yX10_firstLeft ∈ zWS := zin (tb7 (List.mem_of_getElem? (i := 67) (by decide +kernel))) rfl
theorem lX10_340 : Cond.methodLink RX10 340 yX10_calls ∈ zWS := zin (tb7 (List.mem_of_getElem? (i := 71) (by decide +kernel))) rfl
theorem lX10_347 : Cond.methodLink RX10 347 yX10_comesOut ∈ zWS := zin (tb7 (List.mem_of_getElem? (i := 75) (by decide +kernel))) rfl
theorem lX10_331 : Cond.methodLink RX10 331 yX10_works ∈ zWS := zin (tb7 (List.mem_of_getElem? (i := 79) (by decide +kernel))) rfl
theorem lX10_317 : Cond.methodLink RX10 317 yX10_is ∈ zWS := zin (tb7 (List.mem_of_getElem? (i := 83) (by decide +kernel))) rfl
theorem kX10_327 : Cond.constantLong RX10 327 (1000000000000) ∈ zWS := zin (tb7 (List.mem_of_getElem? (i := 89) (by decide +kernel))) rfl
theorem kX10_329 : Cond.constantLong RX10 329 (-1000000000000) ∈ zWS := zin (tb7 (List.mem_of_getElem? (i := 90) (by decide +kernel))) rfl
theorem lL_61 : Cond.methodLink RL 61 yX10_pay ∈ zWS := zin (tb7 (List.mem_of_getElem? (i := 91) (by decide +kernel))) rfl
theorem lX10_429 : Cond.methodLink RX10 429 yX10_keepNow ∈ zWS := zin (tb7 (List.mem_of_getElem? (i := 95) (by decide +kernel))) rfl
theorem lX10_407 : Cond.methodLink RX10 407 yX10_copies ∈ zWS := zin (tb7 (List.mem_of_getElem? (i := 99) (by decide +kernel))) rfl
theorem lL_66 : Cond.methodLink RL 66 yX10_swap ∈ zWS := zin (tb7 (List.mem_of_getElem? (i := 103) (by decide +kernel))) rfl
theorem lL_71 : Cond.methodLink RL 71 yX10_hold ∈ zWS := zin (tb7 (List.mem_of_getElem? (i := 107) (by decide +kernel))) rfl
theorem lL_75 : Cond.methodLink RL 75 yX10_wet ∈ zWS := zin (tb7 (List.mem_of_getElem? (i := 111) (by decide +kernel))) rfl
theorem lL_79 : Cond.methodLink RL 79 yX10_go ∈ zWS := zin (tb7 (List.mem_of_getElem? (i := 116) (by decide +kernel))) rfl
theorem lX10_403 : Cond.methodLink RX10 403 yX10_passes ∈ zWS := zin (tb7 (List.mem_of_getElem? (i := 120) (by decide +kernel))) rfl
theorem lX10_393 : Cond.methodLink RX10 393 yX10_looks ∈ zWS := zin (tb7 (List.mem_of_getElem? (i := 124) (by decide +kernel))) rfl
theorem lX10_396 : Cond.methodLink RX10 396 yX10_entersIf ∈ zWS := zin (tb7 (List.mem_of_getElem? (i := 128) (by decide +kernel))) rfl
theorem lX10_363 : Cond.methodLink RX10 363 yX10_dares ∈ zWS := zin (tb7 (List.mem_of_getElem? (i := 132) (by decide +kernel))) rfl
theorem lX10_399 : Cond.methodLink RX10 399 yX10_goesOnInside ∈ zWS := zin (tb7 (List.mem_of_getElem? (i := 136) (by decide +kernel))) rfl
theorem lX10_382 : Cond.methodLink RX10 382 yX10_isHurt ∈ zWS := zin (tb7 (List.mem_of_getElem? (i := 140) (by decide +kernel))) rfl
theorem lX10_374 : Cond.methodLink RX10 374 yX10_within ∈ zWS := zin (tb7 (List.mem_of_getElem? (i := 144) (by decide +kernel))) rfl
theorem lX10_378 : Cond.methodLink RX10 378 yX10_falls ∈ zWS := zin (tb7 (List.mem_of_getElem? (i := 150) (by decide +kernel))) rfl
theorem kX10_370 : Cond.constant RX10 370 (1103515245) ∈ zWS := zin (tb7 (List.mem_of_getElem? (i := 154) (by decide +kernel))) rfl
theorem kX10_373 : Cond.constant RX10 373 (2147483647) ∈ zWS := zin (tb7 (List.mem_of_getElem? (i := 155) (by decide +kernel))) rfl
theorem lX10_385 : Cond.methodLink RX10 385 yX10_leaves ∈ zWS := zin (tb7 (List.mem_of_getElem? (i := 156) (by decide +kernel))) rfl
theorem lL_83 : Cond.methodLink RL 83 yX10_ahead ∈ zWS := zin (tb7 (List.mem_of_getElem? (i := 161) (by decide +kernel))) rfl
theorem lX10_432 : Cond.methodLink RX10 432 yX10_runs ∈ zWS := zin (tb7 (List.mem_of_getElem? (i := 165) (by decide +kernel))) rfl
theorem lX10_410 : Cond.methodLink RX10 410 yX10_goesOn ∈ zWS := zin (tb7 (List.mem_of_getElem? (i := 169) (by decide +kernel))) rfl
theorem lX10_435 : Cond.methodLink RX10 435 yX10_thingsOf ∈ zWS := zin (tb7 (List.mem_of_getElem? (i := 173) (by decide +kernel))) rfl
theorem lX10_438 : Cond.methodLink RX10 438 yX10_menOf ∈ zWS := zin (tb7 (List.mem_of_getElem? (i := 177) (by decide +kernel))) rfl
theorem lL_87 : Cond.methodLink RL 87 yX10_goes ∈ zWS := zin (tb7 (List.mem_of_getElem? (i := 181) (by decide +kernel))) rfl
theorem lL_91 : Cond.methodLink RL 91 yX10_out ∈ zWS := zin (tb7 (List.mem_of_getElem? (i := 185) (by decide +kernel))) rfl
theorem lL_95 : Cond.methodLink RL 95 yX10_premium ∈ zWS := zin (tb7 (List.mem_of_getElem? (i := 189) (by decide +kernel))) rfl
theorem lX10_441 : Cond.methodLink RX10 441 yX10_premiumOf ∈ zWS := zin (tb7 (List.mem_of_getElem? (i := 193) (by decide +kernel))) rfl
theorem lL_99 : Cond.methodLink RL 99 yX10_cover ∈ zWS := zin (tb7 (List.mem_of_getElem? (i := 197) (by decide +kernel))) rfl
theorem lL_103 : Cond.methodLink RL 103 yX10_match ∈ zWS := zin (tb7 (List.mem_of_getElem? (i := 201) (by decide +kernel))) rfl
theorem lX10_447 : Cond.methodLink RX10 447 yX10_matches ∈ zWS := zin (tb7 (List.mem_of_getElem? (i := 205) (by decide +kernel))) rfl
theorem lL_107 : Cond.methodLink RL 107 yX10_order ∈ zWS := zin (tb7 (List.mem_of_getElem? (i := 209) (by decide +kernel))) rfl
theorem lX10_450 : Cond.methodLink RX10 450 yX10_rows ∈ zWS := zin (tb7 (List.mem_of_getElem? (i := 213) (by decide +kernel))) rfl
theorem lX10_453 : Cond.methodLink RX10 453 yX10_savedWorth ∈ zWS := zin (tb7 (List.mem_of_getElem? (i := 217) (by decide +kernel))) rfl
theorem lL_111 : Cond.methodLink RL 111 yX10_rests ∈ zWS := zin (tb7 (List.mem_of_getElem? (i := 221) (by decide +kernel))) rfl
theorem lX10_467 : Cond.methodLink RX10 467 yX10_areTwo ∈ zWS := zin (tb7 (List.mem_of_getElem? (i := 225) (by decide +kernel))) rfl
theorem lX10_471 : Cond.methodLink RX10 471 yX10_restOf ∈ zWS := zin (tb7 (List.mem_of_getElem? (i := 229) (by decide +kernel))) rfl
theorem lX10_463 : Cond.methodLink RX10 463 yX10_isRest ∈ zWS := zin (tb7 (List.mem_of_getElem? (i := 233) (by decide +kernel))) rfl
theorem lX10_459 : Cond.methodLink RX10 459 yX10_hasOf ∈ zWS := zin (tb7 (List.mem_of_getElem? (i := 237) (by decide +kernel))) rfl
theorem lL_116 : Cond.methodLink RL 116 yX10_rest ∈ zWS := zin (tb8 (List.mem_of_getElem? (i := 1) (by decide +kernel))) rfl
theorem lL_120 : Cond.methodLink RL 120 yX10_comesBack ∈ zWS := zin (tb8 (List.mem_of_getElem? (i := 5) (by decide +kernel))) rfl
theorem kX10_474 : Cond.constantLong RX10 474 (-1) ∈ zWS := zin (tb8 (List.mem_of_getElem? (i := 9) (by decide +kernel))) rfl
theorem kX10_476 : Cond.constantLong RX10 476 (100) ∈ zWS := zin (tb8 (List.mem_of_getElem? (i := 10) (by decide +kernel))) rfl
theorem lX10_478 : Cond.methodLink RX10 478 yX10_common ∈ zWS := zin (tb8 (List.mem_of_getElem? (i := 11) (by decide +kernel))) rfl
theorem lL_124 : Cond.methodLink RL 124 yX10_widow ∈ zWS := zin (tb8 (List.mem_of_getElem? (i := 14) (by decide +kernel))) rfl
theorem lL_128 : Cond.methodLink RL 128 yX10_next ∈ zWS := zin (tb8 (List.mem_of_getElem? (i := 18) (by decide +kernel))) rfl
theorem lL_133 : Cond.methodLink RL 133 yX10_see ∈ zWS := zin (tb8 (List.mem_of_getElem? (i := 22) (by decide +kernel))) rfl
theorem lL_137 : Cond.methodLink RL 137 yX10_strike ∈ zWS := zin (tb8 (List.mem_of_getElem? (i := 26) (by decide +kernel))) rfl
theorem lL_142 : Cond.methodLink RL 142 yX10_known ∈ zWS := zin (tb8 (List.mem_of_getElem? (i := 30) (by decide +kernel))) rfl
theorem lL_146 : Cond.methodLink RL 146 yX10_rues ∈ zWS := zin (tb8 (List.mem_of_getElem? (i := 34) (by decide +kernel))) rfl
theorem lX10_481 : Cond.methodLink RX10 481 yX10_knownMany ∈ zWS := zin (tb8 (List.mem_of_getElem? (i := 38) (by decide +kernel))) rfl
theorem lX10_487 : Cond.methodLink RX10 487 yX10_fitsRue ∈ zWS := zin (tb8 (List.mem_of_getElem? (i := 42) (by decide +kernel))) rfl
theorem lX10_484 : Cond.methodLink RX10 484 yX10_isSo ∈ zWS := zin (tb8 (List.mem_of_getElem? (i := 46) (by decide +kernel))) rfl
theorem lL_150 : Cond.methodLink RL 150 yX10_chance ∈ zWS := zin (tb8 (List.mem_of_getElem? (i := 50) (by decide +kernel))) rfl
theorem lL_154 : Cond.methodLink RL 154 yX10_tried ∈ zWS := zin (tb8 (List.mem_of_getElem? (i := 54) (by decide +kernel))) rfl
theorem lL_158 : Cond.methodLink RL 158 yX10_undo ∈ zWS := zin (tb8 (List.mem_of_getElem? (i := 58) (by decide +kernel))) rfl
theorem lL_162 : Cond.methodLink RL 162 yX10_keep ∈ zWS := zin (tb8 (List.mem_of_getElem? (i := 62) (by decide +kernel))) rfl
theorem lL_166 : Cond.methodLink RL 166 yX10_back ∈ zWS := zin (tb8 (List.mem_of_getElem? (i := 66) (by decide +kernel))) rfl
theorem lL_170 : Cond.methodLink RL 170 yX10_count ∈ zWS := zin (tb8 (List.mem_of_getElem? (i := 70) (by decide +kernel))) rfl
def tX9_init : zT := (yX9_init, cX9_init, 1, none, 0)
def tX3_init : zT := (yX3_init, cX3_init, 1, none, 0)
def tX1_init : zT := (yX1_init, cX1_init, 1, none, 0)
def tX5_init : zT := (yX5_init, cX5_init, 2, none, 1)
def tX7_init : zT := (yX7_init, cX7_init, 1, none, 0)
def tX8_init : zT := (yX8_init, cX8_init, 2, none, 1)
def tX8_begin : zT := (yX8_begin, cX8_begin, 3, none, 1)
theorem vX8_begin : zVok tX8_begin := ⟨zin (tb2 (List.mem_of_getElem? (i := 31) (by decide +kernel))) rfl, zin (tb2 (List.mem_of_getElem? (i := 32) (by decide +kernel))) rfl, zin (tb1 (List.mem_of_getElem? (i := 7) (by decide +kernel))) rfl, zin (tb2 (List.mem_of_getElem? (i := 33) (by decide +kernel))) rfl, ⟨by decide +kernel, by decide +kernel, by decide +kernel⟩, by decide⟩
def tX0_init : zT := (yX0_init, cX0_init, 1, none, 0)
def tX4_init : zT := (yX4_init, cX4_init, 1, none, 0)
def tX2_init : zT := (yX2_init, cX2_init, 1, none, 0)
def tX9_feed : zT := (yX9_feed, cX9_feed, 6, (some .int), 5)
theorem vX9_feed : zVok tX9_feed := ⟨zin (tb2 (List.mem_of_getElem? (i := 221) (by decide +kernel))) rfl, zin (tb2 (List.mem_of_getElem? (i := 222) (by decide +kernel))) rfl, zin (tb1 (List.mem_of_getElem? (i := 1) (by decide +kernel))) rfl, zin (tb2 (List.mem_of_getElem? (i := 223) (by decide +kernel))) rfl, ⟨by decide +kernel, by decide +kernel, by decide +kernel⟩, by decide⟩
def tX9_putFour : zT := (yX9_putFour, cX9_putFour, 4, none, 2)
theorem vX9_putFour : zVok tX9_putFour := ⟨zin (tb2 (List.mem_of_getElem? (i := 226) (by decide +kernel))) rfl, zin (List.mem_append_left _ (List.mem_of_getElem? (i := 0) (by decide +kernel))) rfl, zin (tb1 (List.mem_of_getElem? (i := 1) (by decide +kernel))) rfl, zin (tb2 (List.mem_of_getElem? (i := 227) (by decide +kernel))) rfl, ⟨by decide +kernel, by decide +kernel, by decide +kernel⟩, by decide⟩
def tX9_text : zT := (yX9_text, cX9_text, 4, (some .int), 1)
theorem vX9_text : zVok tX9_text := ⟨zin (tb2 (List.mem_of_getElem? (i := 229) (by decide +kernel))) rfl, zin (tb2 (List.mem_of_getElem? (i := 230) (by decide +kernel))) rfl, zin (tb1 (List.mem_of_getElem? (i := 1) (by decide +kernel))) rfl, zin (tb2 (List.mem_of_getElem? (i := 231) (by decide +kernel))) rfl, ⟨by decide +kernel, by decide +kernel, by decide +kernel⟩, by decide⟩
def tX5_read : zT := (yX5_read, cX5_read, 5, (some .int), 3)
theorem vX5_read : zVok tX5_read := ⟨zin (tb2 (List.mem_of_getElem? (i := 233) (by decide +kernel))) rfl, zin (tb2 (List.mem_of_getElem? (i := 234) (by decide +kernel))) rfl, zin (tb1 (List.mem_of_getElem? (i := 5) (by decide +kernel))) rfl, zin (tb2 (List.mem_of_getElem? (i := 235) (by decide +kernel))) rfl, ⟨by decide +kernel, by decide +kernel, by decide +kernel⟩, by decide⟩
def tX3_clear : zT := (yX3_clear, cX3_clear, 2, none, 0)
theorem vX3_clear : zVok tX3_clear := ⟨zin (tb2 (List.mem_of_getElem? (i := 237) (by decide +kernel))) rfl, zin (tb2 (List.mem_of_getElem? (i := 238) (by decide +kernel))) rfl, zin (tb1 (List.mem_of_getElem? (i := 2) (by decide +kernel))) rfl, zin (tb2 (List.mem_of_getElem? (i := 239) (by decide +kernel))) rfl, ⟨by decide +kernel, by decide +kernel, by decide +kernel⟩, by decide⟩
def tX1_clear : zT := (yX1_clear, cX1_clear, 2, none, 0)
theorem vX1_clear : zVok tX1_clear := ⟨zin (tb3 (List.mem_of_getElem? (i := 1) (by decide +kernel))) rfl, zin (tb3 (List.mem_of_getElem? (i := 2) (by decide +kernel))) rfl, zin (tb1 (List.mem_of_getElem? (i := 3) (by decide +kernel))) rfl, zin (tb3 (List.mem_of_getElem? (i := 3) (by decide +kernel))) rfl, ⟨by decide +kernel, by decide +kernel, by decide +kernel⟩, by decide⟩
def tX7_scan : zT := (yX7_scan, cX7_scan, 5, none, 2)
theorem vX7_scan : zVok tX7_scan := ⟨zin (tb3 (List.mem_of_getElem? (i := 5) (by decide +kernel))) rfl, zin (tb3 (List.mem_of_getElem? (i := 6) (by decide +kernel))) rfl, zin (tb1 (List.mem_of_getElem? (i := 6) (by decide +kernel))) rfl, zin (tb3 (List.mem_of_getElem? (i := 7) (by decide +kernel))) rfl, ⟨by decide +kernel, by decide +kernel, by decide +kernel⟩, by decide⟩
def tX7_skipBlanks : zT := (yX7_skipBlanks, cX7_skipBlanks, 1, none, 0)
theorem vX7_skipBlanks : zVok tX7_skipBlanks := ⟨zin (tb3 (List.mem_of_getElem? (i := 13) (by decide +kernel))) rfl, zin (List.mem_append_left _ (List.mem_of_getElem? (i := 1) (by decide +kernel))) rfl, zin (tb1 (List.mem_of_getElem? (i := 6) (by decide +kernel))) rfl, zin (tb3 (List.mem_of_getElem? (i := 14) (by decide +kernel))) rfl, ⟨by decide +kernel, by decide +kernel, by decide +kernel⟩, by decide⟩
def tX7_takeToken : zT := (yX7_takeToken, cX7_takeToken, 3, (some .int), 1)
theorem vX7_takeToken : zVok tX7_takeToken := ⟨zin (tb3 (List.mem_of_getElem? (i := 17) (by decide +kernel))) rfl, zin (List.mem_append_left _ (List.mem_of_getElem? (i := 2) (by decide +kernel))) rfl, zin (tb1 (List.mem_of_getElem? (i := 6) (by decide +kernel))) rfl, zin (tb3 (List.mem_of_getElem? (i := 18) (by decide +kernel))) rfl, ⟨by decide +kernel, by decide +kernel, by decide +kernel⟩, by decide⟩
def tX7_peek : zT := (yX7_peek, cX7_peek, 1, (some .int), 0)
theorem vX7_peek : zVok tX7_peek := ⟨zin (tb3 (List.mem_of_getElem? (i := 21) (by decide +kernel))) rfl, zin (List.mem_append_left _ (List.mem_of_getElem? (i := 3) (by decide +kernel))) rfl, zin (tb1 (List.mem_of_getElem? (i := 6) (by decide +kernel))) rfl, zin (tb3 (List.mem_of_getElem? (i := 22) (by decide +kernel))) rfl, ⟨by decide +kernel, by decide +kernel, by decide +kernel⟩, by decide⟩
def tX7_isLetter : zT := (yX7_isLetter, cX7_isLetter, 1, (some .boolean), 1)
theorem vX7_isLetter : zSok tX7_isLetter := ⟨zin (tb3 (List.mem_of_getElem? (i := 24) (by decide +kernel))) rfl, zin (tb1 (List.mem_of_getElem? (i := 6) (by decide +kernel))) rfl, zin (tb3 (List.mem_of_getElem? (i := 25) (by decide +kernel))) rfl, ⟨by decide +kernel, by decide +kernel, by decide +kernel⟩, by decide⟩
def tX7_takeWord : zT := (yX7_takeWord, cX7_takeWord, 5, (some .int), 1)
theorem vX7_takeWord : zVok tX7_takeWord := ⟨zin (tb3 (List.mem_of_getElem? (i := 28) (by decide +kernel))) rfl, zin (List.mem_append_left _ (List.mem_of_getElem? (i := 4) (by decide +kernel))) rfl, zin (tb1 (List.mem_of_getElem? (i := 6) (by decide +kernel))) rfl, zin (tb3 (List.mem_of_getElem? (i := 29) (by decide +kernel))) rfl, ⟨by decide +kernel, by decide +kernel, by decide +kernel⟩, by decide⟩
def tX9_find : zT := (yX9_find, cX9_find, 4, (some .int), 3)
theorem vX9_find : zSok tX9_find := ⟨zin (tb3 (List.mem_of_getElem? (i := 33) (by decide +kernel))) rfl, zin (tb1 (List.mem_of_getElem? (i := 1) (by decide +kernel))) rfl, zin (tb3 (List.mem_of_getElem? (i := 34) (by decide +kernel))) rfl, ⟨by decide +kernel, by decide +kernel, by decide +kernel⟩, by decide⟩
def tX7_isDigit : zT := (yX7_isDigit, cX7_isDigit, 1, (some .boolean), 1)
theorem vX7_isDigit : zSok tX7_isDigit := ⟨zin (tb3 (List.mem_of_getElem? (i := 36) (by decide +kernel))) rfl, zin (tb1 (List.mem_of_getElem? (i := 6) (by decide +kernel))) rfl, zin (tb3 (List.mem_of_getElem? (i := 37) (by decide +kernel))) rfl, ⟨by decide +kernel, by decide +kernel, by decide +kernel⟩, by decide⟩
def tX7_takeNumber : zT := (yX7_takeNumber, cX7_takeNumber, 3, (some .int), 1)
theorem vX7_takeNumber : zVok tX7_takeNumber := ⟨zin (tb3 (List.mem_of_getElem? (i := 40) (by decide +kernel))) rfl, zin (List.mem_append_left _ (List.mem_of_getElem? (i := 5) (by decide +kernel))) rfl, zin (tb1 (List.mem_of_getElem? (i := 6) (by decide +kernel))) rfl, zin (tb3 (List.mem_of_getElem? (i := 41) (by decide +kernel))) rfl, ⟨by decide +kernel, by decide +kernel, by decide +kernel⟩, by decide⟩
def tX7_takeSign : zT := (yX7_takeSign, cX7_takeSign, 2, (some .int), 1)
theorem vX7_takeSign : zVok tX7_takeSign := ⟨zin (tb3 (List.mem_of_getElem? (i := 45) (by decide +kernel))) rfl, zin (List.mem_append_left _ (List.mem_of_getElem? (i := 6) (by decide +kernel))) rfl, zin (tb1 (List.mem_of_getElem? (i := 6) (by decide +kernel))) rfl, zin (tb3 (List.mem_of_getElem? (i := 46) (by decide +kernel))) rfl, ⟨by decide +kernel, by decide +kernel, by decide +kernel⟩, by decide⟩
def tX7_takes : zT := (yX7_takes, cX7_takes, 2, (some .boolean), 1)
theorem vX7_takes : zVok tX7_takes := ⟨zin (tb3 (List.mem_of_getElem? (i := 49) (by decide +kernel))) rfl, zin (List.mem_append_left _ (List.mem_of_getElem? (i := 7) (by decide +kernel))) rfl, zin (tb1 (List.mem_of_getElem? (i := 6) (by decide +kernel))) rfl, zin (tb3 (List.mem_of_getElem? (i := 50) (by decide +kernel))) rfl, ⟨by decide +kernel, by decide +kernel, by decide +kernel⟩, by decide⟩
def tX5_advance : zT := (yX5_advance, cX5_advance, 1, none, 0)
theorem vX5_advance : zVok tX5_advance := ⟨zin (tb3 (List.mem_of_getElem? (i := 53) (by decide +kernel))) rfl, zin (List.mem_append_left _ (List.mem_of_getElem? (i := 8) (by decide +kernel))) rfl, zin (tb1 (List.mem_of_getElem? (i := 5) (by decide +kernel))) rfl, zin (tb3 (List.mem_of_getElem? (i := 54) (by decide +kernel))) rfl, ⟨by decide +kernel, by decide +kernel, by decide +kernel⟩, by decide⟩
def tX5_readLine : zT := (yX5_readLine, cX5_readLine, 1, (some .boolean), 0)
theorem vX5_readLine : zVok tX5_readLine := ⟨zin (tb3 (List.mem_of_getElem? (i := 57) (by decide +kernel))) rfl, zin (List.mem_append_left _ (List.mem_of_getElem? (i := 9) (by decide +kernel))) rfl, zin (tb1 (List.mem_of_getElem? (i := 5) (by decide +kernel))) rfl, zin (tb3 (List.mem_of_getElem? (i := 58) (by decide +kernel))) rfl, ⟨by decide +kernel, by decide +kernel, by decide +kernel⟩, by decide⟩
def tX5_readSetting : zT := (yX5_readSetting, cX5_readSetting, 2, (some .boolean), 1)
theorem vX5_readSetting : zVok tX5_readSetting := ⟨zin (tb3 (List.mem_of_getElem? (i := 61) (by decide +kernel))) rfl, zin (List.mem_append_left _ (List.mem_of_getElem? (i := 10) (by decide +kernel))) rfl, zin (tb1 (List.mem_of_getElem? (i := 5) (by decide +kernel))) rfl, zin (tb3 (List.mem_of_getElem? (i := 62) (by decide +kernel))) rfl, ⟨by decide +kernel, by decide +kernel, by decide +kernel⟩, by decide⟩
def tX5_fails : zT := (yX5_fails, cX5_fails, 2, (some .boolean), 1)
theorem vX5_fails : zVok tX5_fails := ⟨zin (tb3 (List.mem_of_getElem? (i := 65) (by decide +kernel))) rfl, zin (List.mem_append_left _ (List.mem_of_getElem? (i := 11) (by decide +kernel))) rfl, zin (tb1 (List.mem_of_getElem? (i := 5) (by decide +kernel))) rfl, zin (tb3 (List.mem_of_getElem? (i := 66) (by decide +kernel))) rfl, ⟨by decide +kernel, by decide +kernel, by decide +kernel⟩, by decide⟩
def tX5_readsNumber : zT := (yX5_readsNumber, cX5_readsNumber, 3, (some .boolean), 2)
theorem vX5_readsNumber : zVok tX5_readsNumber := ⟨zin (tb3 (List.mem_of_getElem? (i := 71) (by decide +kernel))) rfl, zin (List.mem_append_left _ (List.mem_of_getElem? (i := 12) (by decide +kernel))) rfl, zin (tb1 (List.mem_of_getElem? (i := 5) (by decide +kernel))) rfl, zin (tb3 (List.mem_of_getElem? (i := 72) (by decide +kernel))) rfl, ⟨by decide +kernel, by decide +kernel, by decide +kernel⟩, by decide⟩
def tX5_reads : zT := (yX5_reads, cX5_reads, 2, (some .boolean), 1)
theorem vX5_reads : zVok tX5_reads := ⟨zin (tb3 (List.mem_of_getElem? (i := 75) (by decide +kernel))) rfl, zin (List.mem_append_left _ (List.mem_of_getElem? (i := 13) (by decide +kernel))) rfl, zin (tb1 (List.mem_of_getElem? (i := 5) (by decide +kernel))) rfl, zin (tb3 (List.mem_of_getElem? (i := 76) (by decide +kernel))) rfl, ⟨by decide +kernel, by decide +kernel, by decide +kernel⟩, by decide⟩
def tX5_readMan : zT := (yX5_readMan, cX5_readMan, 2, (some .boolean), 0)
theorem vX5_readMan : zVok tX5_readMan := ⟨zin (tb3 (List.mem_of_getElem? (i := 79) (by decide +kernel))) rfl, zin (List.mem_append_left _ (List.mem_of_getElem? (i := 14) (by decide +kernel))) rfl, zin (tb1 (List.mem_of_getElem? (i := 5) (by decide +kernel))) rfl, zin (tb3 (List.mem_of_getElem? (i := 80) (by decide +kernel))) rfl, ⟨by decide +kernel, by decide +kernel, by decide +kernel⟩, by decide⟩
def tX5_readsNewName : zT := (yX5_readsNewName, cX5_readsNewName, 3, (some .boolean), 2)
theorem vX5_readsNewName : zVok tX5_readsNewName := ⟨zin (tb3 (List.mem_of_getElem? (i := 83) (by decide +kernel))) rfl, zin (List.mem_append_left _ (List.mem_of_getElem? (i := 15) (by decide +kernel))) rfl, zin (tb1 (List.mem_of_getElem? (i := 5) (by decide +kernel))) rfl, zin (tb3 (List.mem_of_getElem? (i := 84) (by decide +kernel))) rfl, ⟨by decide +kernel, by decide +kernel, by decide +kernel⟩, by decide⟩
def tX5_readThing : zT := (yX5_readThing, cX5_readThing, 2, (some .boolean), 0)
theorem vX5_readThing : zVok tX5_readThing := ⟨zin (tb3 (List.mem_of_getElem? (i := 88) (by decide +kernel))) rfl, zin (List.mem_append_left _ (List.mem_of_getElem? (i := 16) (by decide +kernel))) rfl, zin (tb1 (List.mem_of_getElem? (i := 5) (by decide +kernel))) rfl, zin (tb3 (List.mem_of_getElem? (i := 89) (by decide +kernel))) rfl, ⟨by decide +kernel, by decide +kernel, by decide +kernel⟩, by decide⟩
def tX5_readLook : zT := (yX5_readLook, cX5_readLook, 3, (some .boolean), 0)
theorem vX5_readLook : zVok tX5_readLook := ⟨zin (tb3 (List.mem_of_getElem? (i := 92) (by decide +kernel))) rfl, zin (List.mem_append_left _ (List.mem_of_getElem? (i := 17) (by decide +kernel))) rfl, zin (tb1 (List.mem_of_getElem? (i := 5) (by decide +kernel))) rfl, zin (tb3 (List.mem_of_getElem? (i := 93) (by decide +kernel))) rfl, ⟨by decide +kernel, by decide +kernel, by decide +kernel⟩, by decide⟩
def tX5_readLaw : zT := (yX5_readLaw, cX5_readLaw, 4, (some .boolean), 0)
theorem vX5_readLaw : zVok tX5_readLaw := ⟨zin (tb3 (List.mem_of_getElem? (i := 96) (by decide +kernel))) rfl, zin (List.mem_append_left _ (List.mem_of_getElem? (i := 18) (by decide +kernel))) rfl, zin (tb1 (List.mem_of_getElem? (i := 5) (by decide +kernel))) rfl, zin (tb3 (List.mem_of_getElem? (i := 97) (by decide +kernel))) rfl, ⟨by decide +kernel, by decide +kernel, by decide +kernel⟩, by decide⟩
def tX5_release : zT := (yX5_release, cX5_release, 2, none, 1)
theorem vX5_release : zVok tX5_release := ⟨zin (tb3 (List.mem_of_getElem? (i := 100) (by decide +kernel))) rfl, zin (List.mem_append_left _ (List.mem_of_getElem? (i := 19) (by decide +kernel))) rfl, zin (tb1 (List.mem_of_getElem? (i := 5) (by decide +kernel))) rfl, zin (tb3 (List.mem_of_getElem? (i := 101) (by decide +kernel))) rfl, ⟨by decide +kernel, by decide +kernel, by decide +kernel⟩, by decide⟩
def tX1_tell : zT := (yX1_tell, cX1_tell, 3, none, 2)
theorem vX1_tell : zVok tX1_tell := ⟨zin (tb3 (List.mem_of_getElem? (i := 103) (by decide +kernel))) rfl, zin (tb3 (List.mem_of_getElem? (i := 104) (by decide +kernel))) rfl, zin (tb1 (List.mem_of_getElem? (i := 3) (by decide +kernel))) rfl, zin (tb3 (List.mem_of_getElem? (i := 105) (by decide +kernel))) rfl, ⟨by decide +kernel, by decide +kernel, by decide +kernel⟩, by decide⟩
def tX5_takeOperand : zT := (yX5_takeOperand, cX5_takeOperand, 4, (some .boolean), 0)
theorem vX5_takeOperand : zVok tX5_takeOperand := ⟨zin (tb3 (List.mem_of_getElem? (i := 108) (by decide +kernel))) rfl, zin (List.mem_append_left _ (List.mem_of_getElem? (i := 20) (by decide +kernel))) rfl, zin (tb1 (List.mem_of_getElem? (i := 5) (by decide +kernel))) rfl, zin (tb3 (List.mem_of_getElem? (i := 109) (by decide +kernel))) rfl, ⟨by decide +kernel, by decide +kernel, by decide +kernel⟩, by decide⟩
def tX5_takeOpen : zT := (yX5_takeOpen, cX5_takeOpen, 1, (some .boolean), 0)
theorem vX5_takeOpen : zVok tX5_takeOpen := ⟨zin (tb3 (List.mem_of_getElem? (i := 112) (by decide +kernel))) rfl, zin (List.mem_append_left _ (List.mem_of_getElem? (i := 21) (by decide +kernel))) rfl, zin (tb1 (List.mem_of_getElem? (i := 5) (by decide +kernel))) rfl, zin (tb3 (List.mem_of_getElem? (i := 113) (by decide +kernel))) rfl, ⟨by decide +kernel, by decide +kernel, by decide +kernel⟩, by decide⟩
def tX5_putWaiting : zT := (yX5_putWaiting, cX5_putWaiting, 2, none, 1)
theorem vX5_putWaiting : zVok tX5_putWaiting := ⟨zin (tb3 (List.mem_of_getElem? (i := 116) (by decide +kernel))) rfl, zin (List.mem_append_left _ (List.mem_of_getElem? (i := 22) (by decide +kernel))) rfl, zin (tb1 (List.mem_of_getElem? (i := 5) (by decide +kernel))) rfl, zin (tb3 (List.mem_of_getElem? (i := 117) (by decide +kernel))) rfl, ⟨by decide +kernel, by decide +kernel, by decide +kernel⟩, by decide⟩
def tX5_levelOf : zT := (yX5_levelOf, cX5_levelOf, 1, (some .int), 1)
theorem vX5_levelOf : zSok tX5_levelOf := ⟨zin (tb3 (List.mem_of_getElem? (i := 119) (by decide +kernel))) rfl, zin (tb1 (List.mem_of_getElem? (i := 5) (by decide +kernel))) rfl, zin (tb3 (List.mem_of_getElem? (i := 120) (by decide +kernel))) rfl, ⟨by decide +kernel, by decide +kernel, by decide +kernel⟩, by decide⟩
def tX5_takeOperator : zT := (yX5_takeOperator, cX5_takeOperator, 3, (some .boolean), 0)
theorem vX5_takeOperator : zVok tX5_takeOperator := ⟨zin (tb3 (List.mem_of_getElem? (i := 123) (by decide +kernel))) rfl, zin (List.mem_append_left _ (List.mem_of_getElem? (i := 23) (by decide +kernel))) rfl, zin (tb1 (List.mem_of_getElem? (i := 5) (by decide +kernel))) rfl, zin (tb3 (List.mem_of_getElem? (i := 124) (by decide +kernel))) rfl, ⟨by decide +kernel, by decide +kernel, by decide +kernel⟩, by decide⟩
def tX4_clear : zT := (yX4_clear, cX4_clear, 1, none, 0)
theorem vX4_clear : zVok tX4_clear := ⟨zin (tb3 (List.mem_of_getElem? (i := 130) (by decide +kernel))) rfl, zin (tb3 (List.mem_of_getElem? (i := 131) (by decide +kernel))) rfl, zin (tb1 (List.mem_of_getElem? (i := 9) (by decide +kernel))) rfl, zin (tb3 (List.mem_of_getElem? (i := 132) (by decide +kernel))) rfl, ⟨by decide +kernel, by decide +kernel, by decide +kernel⟩, by decide⟩
def tX9_fault : zT := (yX9_fault, cX9_fault, 2, (some .int), 1)
theorem vX9_fault : zVok tX9_fault := ⟨zin (tb3 (List.mem_of_getElem? (i := 134) (by decide +kernel))) rfl, zin (tb3 (List.mem_of_getElem? (i := 135) (by decide +kernel))) rfl, zin (tb1 (List.mem_of_getElem? (i := 1) (by decide +kernel))) rfl, zin (tb3 (List.mem_of_getElem? (i := 136) (by decide +kernel))) rfl, ⟨by decide +kernel, by decide +kernel, by decide +kernel⟩, by decide⟩
def tX9_named : zT := (yX9_named, cX9_named, 3, (some .int), 2)
theorem vX9_named : zVok tX9_named := ⟨zin (tb3 (List.mem_of_getElem? (i := 138) (by decide +kernel))) rfl, zin (tb3 (List.mem_of_getElem? (i := 139) (by decide +kernel))) rfl, zin (tb1 (List.mem_of_getElem? (i := 1) (by decide +kernel))) rfl, zin (tb3 (List.mem_of_getElem? (i := 140) (by decide +kernel))) rfl, ⟨by decide +kernel, by decide +kernel, by decide +kernel⟩, by decide⟩
def tX9_thing : zT := (yX9_thing, cX9_thing, 3, (some .int), 2)
theorem vX9_thing : zVok tX9_thing := ⟨zin (tb3 (List.mem_of_getElem? (i := 143) (by decide +kernel))) rfl, zin (tb3 (List.mem_of_getElem? (i := 144) (by decide +kernel))) rfl, zin (tb1 (List.mem_of_getElem? (i := 1) (by decide +kernel))) rfl, zin (tb3 (List.mem_of_getElem? (i := 145) (by decide +kernel))) rfl, ⟨by decide +kernel, by decide +kernel, by decide +kernel⟩, by decide⟩
def tX9_isThing : zT := (yX9_isThing, cX9_isThing, 2, (some .boolean), 1)
theorem vX9_isThing : zVok tX9_isThing := ⟨zin (tb3 (List.mem_of_getElem? (i := 148) (by decide +kernel))) rfl, zin (List.mem_append_left _ (List.mem_of_getElem? (i := 24) (by decide +kernel))) rfl, zin (tb1 (List.mem_of_getElem? (i := 1) (by decide +kernel))) rfl, zin (tb3 (List.mem_of_getElem? (i := 149) (by decide +kernel))) rfl, ⟨by decide +kernel, by decide +kernel, by decide +kernel⟩, by decide⟩
def tX8_goerFor : zT := (yX8_goerFor, cX8_goerFor, 3, (some .int), 1)
theorem vX8_goerFor : zVok tX8_goerFor := ⟨zin (tb3 (List.mem_of_getElem? (i := 151) (by decide +kernel))) rfl, zin (tb3 (List.mem_of_getElem? (i := 152) (by decide +kernel))) rfl, zin (tb1 (List.mem_of_getElem? (i := 7) (by decide +kernel))) rfl, zin (tb3 (List.mem_of_getElem? (i := 153) (by decide +kernel))) rfl, ⟨by decide +kernel, by decide +kernel, by decide +kernel⟩, by decide⟩
def tX9_law : zT := (yX9_law, cX9_law, 3, (some .long), 2)
theorem vX9_law : zVok tX9_law := ⟨zin (tb3 (List.mem_of_getElem? (i := 156) (by decide +kernel))) rfl, zin (tb3 (List.mem_of_getElem? (i := 157) (by decide +kernel))) rfl, zin (tb1 (List.mem_of_getElem? (i := 1) (by decide +kernel))) rfl, zin (tb3 (List.mem_of_getElem? (i := 158) (by decide +kernel))) rfl, ⟨by decide +kernel, by decide +kernel, by decide +kernel⟩, by decide⟩
def tX9_isMan : zT := (yX9_isMan, cX9_isMan, 2, (some .boolean), 1)
theorem vX9_isMan : zVok tX9_isMan := ⟨zin (tb3 (List.mem_of_getElem? (i := 161) (by decide +kernel))) rfl, zin (List.mem_append_left _ (List.mem_of_getElem? (i := 25) (by decide +kernel))) rfl, zin (tb1 (List.mem_of_getElem? (i := 1) (by decide +kernel))) rfl, zin (tb3 (List.mem_of_getElem? (i := 162) (by decide +kernel))) rfl, ⟨by decide +kernel, by decide +kernel, by decide +kernel⟩, by decide⟩
def tX8_freeThing : zT := (yX8_freeThing, cX8_freeThing, 2, (some .int), 0)
theorem vX8_freeThing : zVok tX8_freeThing := ⟨zin (tb3 (List.mem_of_getElem? (i := 165) (by decide +kernel))) rfl, zin (tb3 (List.mem_of_getElem? (i := 166) (by decide +kernel))) rfl, zin (tb1 (List.mem_of_getElem? (i := 7) (by decide +kernel))) rfl, zin (tb3 (List.mem_of_getElem? (i := 167) (by decide +kernel))) rfl, ⟨by decide +kernel, by decide +kernel, by decide +kernel⟩, by decide⟩
def tX8_setFacts : zT := (yX8_setFacts, cX8_setFacts, 5, none, 3)
theorem vX8_setFacts : zVok tX8_setFacts := ⟨zin (tb3 (List.mem_of_getElem? (i := 170) (by decide +kernel))) rfl, zin (tb3 (List.mem_of_getElem? (i := 171) (by decide +kernel))) rfl, zin (tb1 (List.mem_of_getElem? (i := 7) (by decide +kernel))) rfl, zin (tb3 (List.mem_of_getElem? (i := 172) (by decide +kernel))) rfl, ⟨by decide +kernel, by decide +kernel, by decide +kernel⟩, by decide⟩
def tX1_work : zT := (yX1_work, cX1_work, 5, (some .long), 1)
theorem vX1_work : zVok tX1_work := ⟨zin (tb3 (List.mem_of_getElem? (i := 174) (by decide +kernel))) rfl, zin (tb3 (List.mem_of_getElem? (i := 175) (by decide +kernel))) rfl, zin (tb1 (List.mem_of_getElem? (i := 3) (by decide +kernel))) rfl, zin (tb3 (List.mem_of_getElem? (i := 176) (by decide +kernel))) rfl, ⟨by decide +kernel, by decide +kernel, by decide +kernel⟩, by decide⟩
def tX1_combine : zT := (yX1_combine, cX1_combine, 9, (some .long), 3)
theorem vX1_combine : zSok tX1_combine := ⟨zin (tb3 (List.mem_of_getElem? (i := 179) (by decide +kernel))) rfl, zin (tb1 (List.mem_of_getElem? (i := 3) (by decide +kernel))) rfl, zin (tb3 (List.mem_of_getElem? (i := 180) (by decide +kernel))) rfl, ⟨by decide +kernel, by decide +kernel, by decide +kernel⟩, by decide⟩
def tX1_valueOf : zT := (yX1_valueOf, cX1_valueOf, 4, (some .long), 2)
theorem vX1_valueOf : zVok tX1_valueOf := ⟨zin (tb3 (List.mem_of_getElem? (i := 185) (by decide +kernel))) rfl, zin (List.mem_append_left _ (List.mem_of_getElem? (i := 26) (by decide +kernel))) rfl, zin (tb1 (List.mem_of_getElem? (i := 3) (by decide +kernel))) rfl, zin (tb3 (List.mem_of_getElem? (i := 186) (by decide +kernel))) rfl, ⟨by decide +kernel, by decide +kernel, by decide +kernel⟩, by decide⟩
def tX9_count : zT := (yX9_count, cX9_count, 2, (some .int), 1)
theorem vX9_count : zVok tX9_count := ⟨zin (tb3 (List.mem_of_getElem? (i := 188) (by decide +kernel))) rfl, zin (tb3 (List.mem_of_getElem? (i := 189) (by decide +kernel))) rfl, zin (tb1 (List.mem_of_getElem? (i := 1) (by decide +kernel))) rfl, zin (tb3 (List.mem_of_getElem? (i := 190) (by decide +kernel))) rfl, ⟨by decide +kernel, by decide +kernel, by decide +kernel⟩, by decide⟩
def tX8_thingsThatAre : zT := (yX8_thingsThatAre, cX8_thingsThatAre, 4, (some .int), 1)
theorem vX8_thingsThatAre : zVok tX8_thingsThatAre := ⟨zin (tb3 (List.mem_of_getElem? (i := 192) (by decide +kernel))) rfl, zin (tb3 (List.mem_of_getElem? (i := 193) (by decide +kernel))) rfl, zin (tb1 (List.mem_of_getElem? (i := 7) (by decide +kernel))) rfl, zin (tb3 (List.mem_of_getElem? (i := 194) (by decide +kernel))) rfl, ⟨by decide +kernel, by decide +kernel, by decide +kernel⟩, by decide⟩
def tX8_menThatAre : zT := (yX8_menThatAre, cX8_menThatAre, 4, (some .int), 1)
theorem vX8_menThatAre : zVok tX8_menThatAre := ⟨zin (tb3 (List.mem_of_getElem? (i := 196) (by decide +kernel))) rfl, zin (tb3 (List.mem_of_getElem? (i := 197) (by decide +kernel))) rfl, zin (tb1 (List.mem_of_getElem? (i := 7) (by decide +kernel))) rfl, zin (tb3 (List.mem_of_getElem? (i := 198) (by decide +kernel))) rfl, ⟨by decide +kernel, by decide +kernel, by decide +kernel⟩, by decide⟩
def tX8_savedWorth : zT := (yX8_savedWorth, cX8_savedWorth, 3, (some .int), 0)
theorem vX8_savedWorth : zVok tX8_savedWorth := ⟨zin (tb3 (List.mem_of_getElem? (i := 200) (by decide +kernel))) rfl, zin (tb3 (List.mem_of_getElem? (i := 201) (by decide +kernel))) rfl, zin (tb1 (List.mem_of_getElem? (i := 7) (by decide +kernel))) rfl, zin (tb3 (List.mem_of_getElem? (i := 202) (by decide +kernel))) rfl, ⟨by decide +kernel, by decide +kernel, by decide +kernel⟩, by decide⟩
def tX4_knownSize : zT := (yX4_knownSize, cX4_knownSize, 1, (some .int), 0)
theorem vX4_knownSize : zVok tX4_knownSize := ⟨zin (tb3 (List.mem_of_getElem? (i := 204) (by decide +kernel))) rfl, zin (tb3 (List.mem_of_getElem? (i := 205) (by decide +kernel))) rfl, zin (tb1 (List.mem_of_getElem? (i := 9) (by decide +kernel))) rfl, zin (tb3 (List.mem_of_getElem? (i := 206) (by decide +kernel))) rfl, ⟨by decide +kernel, by decide +kernel, by decide +kernel⟩, by decide⟩
def tX9_pay : zT := (yX9_pay, cX9_pay, 3, (some .int), 2)
theorem vX9_pay : zVok tX9_pay := ⟨zin (tb3 (List.mem_of_getElem? (i := 208) (by decide +kernel))) rfl, zin (tb3 (List.mem_of_getElem? (i := 209) (by decide +kernel))) rfl, zin (tb1 (List.mem_of_getElem? (i := 1) (by decide +kernel))) rfl, zin (tb3 (List.mem_of_getElem? (i := 210) (by decide +kernel))) rfl, ⟨by decide +kernel, by decide +kernel, by decide +kernel⟩, by decide⟩
def tX0_note : zT := (yX0_note, cX0_note, 4, none, 3)
theorem vX0_note : zVok tX0_note := ⟨zin (tb3 (List.mem_of_getElem? (i := 212) (by decide +kernel))) rfl, zin (tb3 (List.mem_of_getElem? (i := 213) (by decide +kernel))) rfl, zin (tb1 (List.mem_of_getElem? (i := 8) (by decide +kernel))) rfl, zin (tb3 (List.mem_of_getElem? (i := 214) (by decide +kernel))) rfl, ⟨by decide +kernel, by decide +kernel, by decide +kernel⟩, by decide⟩
def tX0_forgetFirst : zT := (yX0_forgetFirst, cX0_forgetFirst, 2, none, 0)
theorem vX0_forgetFirst : zVok tX0_forgetFirst := ⟨zin (tb3 (List.mem_of_getElem? (i := 217) (by decide +kernel))) rfl, zin (List.mem_append_left _ (List.mem_of_getElem? (i := 27) (by decide +kernel))) rfl, zin (tb1 (List.mem_of_getElem? (i := 8) (by decide +kernel))) rfl, zin (tb3 (List.mem_of_getElem? (i := 218) (by decide +kernel))) rfl, ⟨by decide +kernel, by decide +kernel, by decide +kernel⟩, by decide⟩
def tX9_swap : zT := (yX9_swap, cX9_swap, 3, (some .boolean), 2)
theorem vX9_swap : zVok tX9_swap := ⟨zin (tb3 (List.mem_of_getElem? (i := 220) (by decide +kernel))) rfl, zin (tb3 (List.mem_of_getElem? (i := 221) (by decide +kernel))) rfl, zin (tb1 (List.mem_of_getElem? (i := 1) (by decide +kernel))) rfl, zin (tb3 (List.mem_of_getElem? (i := 222) (by decide +kernel))) rfl, ⟨by decide +kernel, by decide +kernel, by decide +kernel⟩, by decide⟩
def tX9_areTwo : zT := (yX9_areTwo, cX9_areTwo, 3, (some .boolean), 2)
theorem vX9_areTwo : zVok tX9_areTwo := ⟨zin (tb3 (List.mem_of_getElem? (i := 225) (by decide +kernel))) rfl, zin (List.mem_append_left _ (List.mem_of_getElem? (i := 28) (by decide +kernel))) rfl, zin (tb1 (List.mem_of_getElem? (i := 1) (by decide +kernel))) rfl, zin (tb3 (List.mem_of_getElem? (i := 226) (by decide +kernel))) rfl, ⟨by decide +kernel, by decide +kernel, by decide +kernel⟩, by decide⟩
def tX8_changePlaces : zT := (yX8_changePlaces, cX8_changePlaces, 5, none, 2)
theorem vX8_changePlaces : zVok tX8_changePlaces := ⟨zin (tb3 (List.mem_of_getElem? (i := 228) (by decide +kernel))) rfl, zin (tb3 (List.mem_of_getElem? (i := 229) (by decide +kernel))) rfl, zin (tb1 (List.mem_of_getElem? (i := 7) (by decide +kernel))) rfl, zin (tb3 (List.mem_of_getElem? (i := 230) (by decide +kernel))) rfl, ⟨by decide +kernel, by decide +kernel, by decide +kernel⟩, by decide⟩
def tX8_placeOf : zT := (yX8_placeOf, cX8_placeOf, 2, (some .int), 1)
theorem vX8_placeOf : zVok tX8_placeOf := ⟨zin (tb3 (List.mem_of_getElem? (i := 232) (by decide +kernel))) rfl, zin (tb3 (List.mem_of_getElem? (i := 233) (by decide +kernel))) rfl, zin (tb1 (List.mem_of_getElem? (i := 7) (by decide +kernel))) rfl, zin (tb3 (List.mem_of_getElem? (i := 234) (by decide +kernel))) rfl, ⟨by decide +kernel, by decide +kernel, by decide +kernel⟩, by decide⟩
def tX9_hold : zT := (yX9_hold, cX9_hold, 3, (some .boolean), 2)
theorem vX9_hold : zVok tX9_hold := ⟨zin (tb3 (List.mem_of_getElem? (i := 236) (by decide +kernel))) rfl, zin (tb3 (List.mem_of_getElem? (i := 237) (by decide +kernel))) rfl, zin (tb1 (List.mem_of_getElem? (i := 1) (by decide +kernel))) rfl, zin (tb3 (List.mem_of_getElem? (i := 238) (by decide +kernel))) rfl, ⟨by decide +kernel, by decide +kernel, by decide +kernel⟩, by decide⟩
def tX9_wet : zT := (yX9_wet, cX9_wet, 3, (some .int), 2)
theorem vX9_wet : zVok tX9_wet := ⟨zin (tb4 (List.mem_of_getElem? (i := 0) (by decide +kernel))) rfl, zin (tb4 (List.mem_of_getElem? (i := 1) (by decide +kernel))) rfl, zin (tb1 (List.mem_of_getElem? (i := 1) (by decide +kernel))) rfl, zin (tb4 (List.mem_of_getElem? (i := 2) (by decide +kernel))) rfl, ⟨by decide +kernel, by decide +kernel, by decide +kernel⟩, by decide⟩
def tX9_undo : zT := (yX9_undo, cX9_undo, 4, (some .int), 0)
theorem vX9_undo : zVok tX9_undo := ⟨zin (tb4 (List.mem_of_getElem? (i := 5) (by decide +kernel))) rfl, zin (tb4 (List.mem_of_getElem? (i := 6) (by decide +kernel))) rfl, zin (tb1 (List.mem_of_getElem? (i := 1) (by decide +kernel))) rfl, zin (tb4 (List.mem_of_getElem? (i := 7) (by decide +kernel))) rfl, ⟨by decide +kernel, by decide +kernel, by decide +kernel⟩, by decide⟩
def tX9_undoWetting : zT := (yX9_undoWetting, cX9_undoWetting, 3, none, 2)
theorem vX9_undoWetting : zVok tX9_undoWetting := ⟨zin (tb4 (List.mem_of_getElem? (i := 10) (by decide +kernel))) rfl, zin (List.mem_append_left _ (List.mem_of_getElem? (i := 29) (by decide +kernel))) rfl, zin (tb1 (List.mem_of_getElem? (i := 1) (by decide +kernel))) rfl, zin (tb4 (List.mem_of_getElem? (i := 11) (by decide +kernel))) rfl, ⟨by decide +kernel, by decide +kernel, by decide +kernel⟩, by decide⟩
def tX9_undoToMan : zT := (yX9_undoToMan, cX9_undoToMan, 4, none, 3)
theorem vX9_undoToMan : zVok tX9_undoToMan := ⟨zin (tb4 (List.mem_of_getElem? (i := 14) (by decide +kernel))) rfl, zin (List.mem_append_left _ (List.mem_of_getElem? (i := 30) (by decide +kernel))) rfl, zin (tb1 (List.mem_of_getElem? (i := 1) (by decide +kernel))) rfl, zin (tb4 (List.mem_of_getElem? (i := 15) (by decide +kernel))) rfl, ⟨by decide +kernel, by decide +kernel, by decide +kernel⟩, by decide⟩
def tX9_go : zT := (yX9_go, cX9_go, 3, (some .int), 1)
theorem vX9_go : zVok tX9_go := ⟨zin (tb4 (List.mem_of_getElem? (i := 17) (by decide +kernel))) rfl, zin (tb4 (List.mem_of_getElem? (i := 18) (by decide +kernel))) rfl, zin (tb1 (List.mem_of_getElem? (i := 1) (by decide +kernel))) rfl, zin (tb4 (List.mem_of_getElem? (i := 19) (by decide +kernel))) rfl, ⟨by decide +kernel, by decide +kernel, by decide +kernel⟩, by decide⟩
def tX8_pass : zT := (yX8_pass, cX8_pass, 3, none, 1)
theorem vX8_pass : zVok tX8_pass := ⟨zin (tb4 (List.mem_of_getElem? (i := 21) (by decide +kernel))) rfl, zin (tb4 (List.mem_of_getElem? (i := 22) (by decide +kernel))) rfl, zin (tb1 (List.mem_of_getElem? (i := 7) (by decide +kernel))) rfl, zin (tb4 (List.mem_of_getElem? (i := 23) (by decide +kernel))) rfl, ⟨by decide +kernel, by decide +kernel, by decide +kernel⟩, by decide⟩
def tX8_payLooks : zT := (yX8_payLooks, cX8_payLooks, 2, none, 0)
theorem vX8_payLooks : zVok tX8_payLooks := ⟨zin (tb4 (List.mem_of_getElem? (i := 26) (by decide +kernel))) rfl, zin (List.mem_append_left _ (List.mem_of_getElem? (i := 31) (by decide +kernel))) rfl, zin (tb1 (List.mem_of_getElem? (i := 7) (by decide +kernel))) rfl, zin (tb4 (List.mem_of_getElem? (i := 27) (by decide +kernel))) rfl, ⟨by decide +kernel, by decide +kernel, by decide +kernel⟩, by decide⟩
def tX8_payLook : zT := (yX8_payLook, cX8_payLook, 3, none, 2)
theorem vX8_payLook : zVok tX8_payLook := ⟨zin (tb4 (List.mem_of_getElem? (i := 30) (by decide +kernel))) rfl, zin (List.mem_append_left _ (List.mem_of_getElem? (i := 32) (by decide +kernel))) rfl, zin (tb1 (List.mem_of_getElem? (i := 7) (by decide +kernel))) rfl, zin (tb4 (List.mem_of_getElem? (i := 31) (by decide +kernel))) rfl, ⟨by decide +kernel, by decide +kernel, by decide +kernel⟩, by decide⟩
def tX8_sendMan : zT := (yX8_sendMan, cX8_sendMan, 3, none, 1)
theorem vX8_sendMan : zVok tX8_sendMan := ⟨zin (tb4 (List.mem_of_getElem? (i := 34) (by decide +kernel))) rfl, zin (List.mem_append_left _ (List.mem_of_getElem? (i := 33) (by decide +kernel))) rfl, zin (tb1 (List.mem_of_getElem? (i := 7) (by decide +kernel))) rfl, zin (tb4 (List.mem_of_getElem? (i := 35) (by decide +kernel))) rfl, ⟨by decide +kernel, by decide +kernel, by decide +kernel⟩, by decide⟩
def tX8_dares : zT := (yX8_dares, cX8_dares, 6, (some .boolean), 3)
theorem vX8_dares : zVok tX8_dares := ⟨zin (tb4 (List.mem_of_getElem? (i := 38) (by decide +kernel))) rfl, zin (tb4 (List.mem_of_getElem? (i := 39) (by decide +kernel))) rfl, zin (tb1 (List.mem_of_getElem? (i := 7) (by decide +kernel))) rfl, zin (tb4 (List.mem_of_getElem? (i := 40) (by decide +kernel))) rfl, ⟨by decide +kernel, by decide +kernel, by decide +kernel⟩, by decide⟩
def tX8_moveMan : zT := (yX8_moveMan, cX8_moveMan, 4, none, 2)
theorem vX8_moveMan : zVok tX8_moveMan := ⟨zin (tb4 (List.mem_of_getElem? (i := 46) (by decide +kernel))) rfl, zin (List.mem_append_left _ (List.mem_of_getElem? (i := 34) (by decide +kernel))) rfl, zin (tb1 (List.mem_of_getElem? (i := 7) (by decide +kernel))) rfl, zin (tb4 (List.mem_of_getElem? (i := 47) (by decide +kernel))) rfl, ⟨by decide +kernel, by decide +kernel, by decide +kernel⟩, by decide⟩
def tX8_isHurt : zT := (yX8_isHurt, cX8_isHurt, 6, (some .boolean), 3)
theorem vX8_isHurt : zVok tX8_isHurt := ⟨zin (tb4 (List.mem_of_getElem? (i := 50) (by decide +kernel))) rfl, zin (List.mem_append_left _ (List.mem_of_getElem? (i := 35) (by decide +kernel))) rfl, zin (tb1 (List.mem_of_getElem? (i := 7) (by decide +kernel))) rfl, zin (tb4 (List.mem_of_getElem? (i := 51) (by decide +kernel))) rfl, ⟨by decide +kernel, by decide +kernel, by decide +kernel⟩, by decide⟩
def tX8_comesTrue : zT := (yX8_comesTrue, cX8_comesTrue, 4, (some .boolean), 2)
theorem vX8_comesTrue : zVok tX8_comesTrue := ⟨zin (tb4 (List.mem_of_getElem? (i := 54) (by decide +kernel))) rfl, zin (List.mem_append_left _ (List.mem_of_getElem? (i := 36) (by decide +kernel))) rfl, zin (tb1 (List.mem_of_getElem? (i := 7) (by decide +kernel))) rfl, zin (tb4 (List.mem_of_getElem? (i := 55) (by decide +kernel))) rfl, ⟨by decide +kernel, by decide +kernel, by decide +kernel⟩, by decide⟩
def tX8_leaveThing : zT := (yX8_leaveThing, cX8_leaveThing, 3, none, 2)
theorem vX8_leaveThing : zVok tX8_leaveThing := ⟨zin (tb4 (List.mem_of_getElem? (i := 62) (by decide +kernel))) rfl, zin (List.mem_append_left _ (List.mem_of_getElem? (i := 37) (by decide +kernel))) rfl, zin (tb1 (List.mem_of_getElem? (i := 7) (by decide +kernel))) rfl, zin (tb4 (List.mem_of_getElem? (i := 63) (by decide +kernel))) rfl, ⟨by decide +kernel, by decide +kernel, by decide +kernel⟩, by decide⟩
def tX8_saveThing : zT := (yX8_saveThing, cX8_saveThing, 6, none, 2)
theorem vX8_saveThing : zVok tX8_saveThing := ⟨zin (tb4 (List.mem_of_getElem? (i := 66) (by decide +kernel))) rfl, zin (List.mem_append_left _ (List.mem_of_getElem? (i := 38) (by decide +kernel))) rfl, zin (tb1 (List.mem_of_getElem? (i := 7) (by decide +kernel))) rfl, zin (tb4 (List.mem_of_getElem? (i := 67) (by decide +kernel))) rfl, ⟨by decide +kernel, by decide +kernel, by decide +kernel⟩, by decide⟩
def tX8_burnThings : zT := (yX8_burnThings, cX8_burnThings, 2, none, 0)
theorem vX8_burnThings : zVok tX8_burnThings := ⟨zin (tb4 (List.mem_of_getElem? (i := 80) (by decide +kernel))) rfl, zin (List.mem_append_left _ (List.mem_of_getElem? (i := 39) (by decide +kernel))) rfl, zin (tb1 (List.mem_of_getElem? (i := 7) (by decide +kernel))) rfl, zin (tb4 (List.mem_of_getElem? (i := 81) (by decide +kernel))) rfl, ⟨by decide +kernel, by decide +kernel, by decide +kernel⟩, by decide⟩
def tX8_growHeat : zT := (yX8_growHeat, cX8_growHeat, 3, none, 1)
theorem vX8_growHeat : zVok tX8_growHeat := ⟨zin (tb4 (List.mem_of_getElem? (i := 84) (by decide +kernel))) rfl, zin (List.mem_append_left _ (List.mem_of_getElem? (i := 40) (by decide +kernel))) rfl, zin (tb1 (List.mem_of_getElem? (i := 7) (by decide +kernel))) rfl, zin (tb4 (List.mem_of_getElem? (i := 85) (by decide +kernel))) rfl, ⟨by decide +kernel, by decide +kernel, by decide +kernel⟩, by decide⟩
def tX9_keep : zT := (yX9_keep, cX9_keep, 1, (some .int), 0)
theorem vX9_keep : zVok tX9_keep := ⟨zin (tb4 (List.mem_of_getElem? (i := 87) (by decide +kernel))) rfl, zin (tb4 (List.mem_of_getElem? (i := 88) (by decide +kernel))) rfl, zin (tb1 (List.mem_of_getElem? (i := 1) (by decide +kernel))) rfl, zin (tb4 (List.mem_of_getElem? (i := 89) (by decide +kernel))) rfl, ⟨by decide +kernel, by decide +kernel, by decide +kernel⟩, by decide⟩
def tX8_become : zT := (yX8_become, cX8_become, 3, none, 1)
theorem vX8_become : zVok tX8_become := ⟨zin (tb4 (List.mem_of_getElem? (i := 91) (by decide +kernel))) rfl, zin (tb4 (List.mem_of_getElem? (i := 92) (by decide +kernel))) rfl, zin (tb1 (List.mem_of_getElem? (i := 7) (by decide +kernel))) rfl, zin (tb4 (List.mem_of_getElem? (i := 93) (by decide +kernel))) rfl, ⟨by decide +kernel, by decide +kernel, by decide +kernel⟩, by decide⟩
def tX9_back : zT := (yX9_back, cX9_back, 1, (some .int), 0)
theorem vX9_back : zVok tX9_back := ⟨zin (tb4 (List.mem_of_getElem? (i := 96) (by decide +kernel))) rfl, zin (tb4 (List.mem_of_getElem? (i := 97) (by decide +kernel))) rfl, zin (tb1 (List.mem_of_getElem? (i := 1) (by decide +kernel))) rfl, zin (tb4 (List.mem_of_getElem? (i := 98) (by decide +kernel))) rfl, ⟨by decide +kernel, by decide +kernel, by decide +kernel⟩, by decide⟩
def tX9_ahead : zT := (yX9_ahead, cX9_ahead, 4, (some .int), 2)
theorem vX9_ahead : zVok tX9_ahead := ⟨zin (tb4 (List.mem_of_getElem? (i := 100) (by decide +kernel))) rfl, zin (tb4 (List.mem_of_getElem? (i := 101) (by decide +kernel))) rfl, zin (tb1 (List.mem_of_getElem? (i := 1) (by decide +kernel))) rfl, zin (tb4 (List.mem_of_getElem? (i := 102) (by decide +kernel))) rfl, ⟨by decide +kernel, by decide +kernel, by decide +kernel⟩, by decide⟩
def tX9_isCount : zT := (yX9_isCount, cX9_isCount, 1, (some .boolean), 1)
theorem vX9_isCount : zSok tX9_isCount := ⟨zin (tb4 (List.mem_of_getElem? (i := 104) (by decide +kernel))) rfl, zin (tb1 (List.mem_of_getElem? (i := 1) (by decide +kernel))) rfl, zin (tb4 (List.mem_of_getElem? (i := 105) (by decide +kernel))) rfl, ⟨by decide +kernel, by decide +kernel, by decide +kernel⟩, by decide⟩
def tX9_goes : zT := (yX9_goes, cX9_goes, 3, (some .int), 1)
theorem vX9_goes : zVok tX9_goes := ⟨zin (tb4 (List.mem_of_getElem? (i := 107) (by decide +kernel))) rfl, zin (tb4 (List.mem_of_getElem? (i := 108) (by decide +kernel))) rfl, zin (tb1 (List.mem_of_getElem? (i := 1) (by decide +kernel))) rfl, zin (tb4 (List.mem_of_getElem? (i := 109) (by decide +kernel))) rfl, ⟨by decide +kernel, by decide +kernel, by decide +kernel⟩, by decide⟩
def tX9_out : zT := (yX9_out, cX9_out, 3, (some .int), 1)
theorem vX9_out : zVok tX9_out := ⟨zin (tb4 (List.mem_of_getElem? (i := 111) (by decide +kernel))) rfl, zin (tb4 (List.mem_of_getElem? (i := 112) (by decide +kernel))) rfl, zin (tb1 (List.mem_of_getElem? (i := 1) (by decide +kernel))) rfl, zin (tb4 (List.mem_of_getElem? (i := 113) (by decide +kernel))) rfl, ⟨by decide +kernel, by decide +kernel, by decide +kernel⟩, by decide⟩
def tX9_tried : zT := (yX9_tried, cX9_tried, 6, (some .int), 3)
theorem vX9_tried : zVok tX9_tried := ⟨zin (tb4 (List.mem_of_getElem? (i := 115) (by decide +kernel))) rfl, zin (tb4 (List.mem_of_getElem? (i := 116) (by decide +kernel))) rfl, zin (tb1 (List.mem_of_getElem? (i := 1) (by decide +kernel))) rfl, zin (tb4 (List.mem_of_getElem? (i := 117) (by decide +kernel))) rfl, ⟨by decide +kernel, by decide +kernel, by decide +kernel⟩, by decide⟩
def tX9_wayTried : zT := (yX9_wayTried, cX9_wayTried, 1, (some .int), 1)
theorem vX9_wayTried : zSok tX9_wayTried := ⟨zin (tb4 (List.mem_of_getElem? (i := 119) (by decide +kernel))) rfl, zin (tb1 (List.mem_of_getElem? (i := 1) (by decide +kernel))) rfl, zin (tb4 (List.mem_of_getElem? (i := 120) (by decide +kernel))) rfl, ⟨by decide +kernel, by decide +kernel, by decide +kernel⟩, by decide⟩
def tX9_chance : zT := (yX9_chance, cX9_chance, 8, (some .int), 3)
theorem vX9_chance : zVok tX9_chance := ⟨zin (tb4 (List.mem_of_getElem? (i := 122) (by decide +kernel))) rfl, zin (tb4 (List.mem_of_getElem? (i := 123) (by decide +kernel))) rfl, zin (tb1 (List.mem_of_getElem? (i := 1) (by decide +kernel))) rfl, zin (tb4 (List.mem_of_getElem? (i := 124) (by decide +kernel))) rfl, ⟨by decide +kernel, by decide +kernel, by decide +kernel⟩, by decide⟩
def tX9_premium : zT := (yX9_premium, cX9_premium, 2, (some .int), 1)
theorem vX9_premium : zVok tX9_premium := ⟨zin (tb4 (List.mem_of_getElem? (i := 126) (by decide +kernel))) rfl, zin (tb4 (List.mem_of_getElem? (i := 127) (by decide +kernel))) rfl, zin (tb1 (List.mem_of_getElem? (i := 1) (by decide +kernel))) rfl, zin (tb4 (List.mem_of_getElem? (i := 128) (by decide +kernel))) rfl, ⟨by decide +kernel, by decide +kernel, by decide +kernel⟩, by decide⟩
def tX9_premiumOf : zT := (yX9_premiumOf, cX9_premiumOf, 4, (some .int), 2)
theorem vX9_premiumOf : zVok tX9_premiumOf := ⟨zin (tb4 (List.mem_of_getElem? (i := 131) (by decide +kernel))) rfl, zin (List.mem_append_left _ (List.mem_of_getElem? (i := 41) (by decide +kernel))) rfl, zin (tb1 (List.mem_of_getElem? (i := 1) (by decide +kernel))) rfl, zin (tb4 (List.mem_of_getElem? (i := 132) (by decide +kernel))) rfl, ⟨by decide +kernel, by decide +kernel, by decide +kernel⟩, by decide⟩
def tX9_cover : zT := (yX9_cover, cX9_cover, 5, (some .int), 1)
theorem vX9_cover : zVok tX9_cover := ⟨zin (tb4 (List.mem_of_getElem? (i := 135) (by decide +kernel))) rfl, zin (tb4 (List.mem_of_getElem? (i := 136) (by decide +kernel))) rfl, zin (tb1 (List.mem_of_getElem? (i := 1) (by decide +kernel))) rfl, zin (tb4 (List.mem_of_getElem? (i := 137) (by decide +kernel))) rfl, ⟨by decide +kernel, by decide +kernel, by decide +kernel⟩, by decide⟩
def tX9_sortPremiums : zT := (yX9_sortPremiums, cX9_sortPremiums, 5, (some .int), 0)
theorem vX9_sortPremiums : zVok tX9_sortPremiums := ⟨zin (tb4 (List.mem_of_getElem? (i := 140) (by decide +kernel))) rfl, zin (List.mem_append_left _ (List.mem_of_getElem? (i := 42) (by decide +kernel))) rfl, zin (tb1 (List.mem_of_getElem? (i := 1) (by decide +kernel))) rfl, zin (tb4 (List.mem_of_getElem? (i := 141) (by decide +kernel))) rfl, ⟨by decide +kernel, by decide +kernel, by decide +kernel⟩, by decide⟩
def tX9_putInOrder : zT := (yX9_putInOrder, cX9_putInOrder, 4, none, 3)
theorem vX9_putInOrder : zSok tX9_putInOrder := ⟨zin (tb4 (List.mem_of_getElem? (i := 143) (by decide +kernel))) rfl, zin (tb1 (List.mem_of_getElem? (i := 1) (by decide +kernel))) rfl, zin (tb4 (List.mem_of_getElem? (i := 144) (by decide +kernel))) rfl, ⟨by decide +kernel, by decide +kernel, by decide +kernel⟩, by decide⟩
def tX9_match : zT := (yX9_match, cX9_match, 3, (some .int), 1)
theorem vX9_match : zVok tX9_match := ⟨zin (tb4 (List.mem_of_getElem? (i := 146) (by decide +kernel))) rfl, zin (tb4 (List.mem_of_getElem? (i := 147) (by decide +kernel))) rfl, zin (tb1 (List.mem_of_getElem? (i := 1) (by decide +kernel))) rfl, zin (tb4 (List.mem_of_getElem? (i := 148) (by decide +kernel))) rfl, ⟨by decide +kernel, by decide +kernel, by decide +kernel⟩, by decide⟩
def tX2_solve : zT := (yX2_solve, cX2_solve, 6, (some .int), 1)
theorem vX2_solve : zVok tX2_solve := ⟨zin (tb4 (List.mem_of_getElem? (i := 150) (by decide +kernel))) rfl, zin (tb4 (List.mem_of_getElem? (i := 151) (by decide +kernel))) rfl, zin (tb1 (List.mem_of_getElem? (i := 10) (by decide +kernel))) rfl, zin (tb4 (List.mem_of_getElem? (i := 152) (by decide +kernel))) rfl, ⟨by decide +kernel, by decide +kernel, by decide +kernel⟩, by decide⟩
def tX2_mostOf : zT := (yX2_mostOf, cX2_mostOf, 6, (some .int), 3)
theorem vX2_mostOf : zVok tX2_mostOf := ⟨zin (tb4 (List.mem_of_getElem? (i := 156) (by decide +kernel))) rfl, zin (List.mem_append_left _ (List.mem_of_getElem? (i := 43) (by decide +kernel))) rfl, zin (tb1 (List.mem_of_getElem? (i := 10) (by decide +kernel))) rfl, zin (tb4 (List.mem_of_getElem? (i := 157) (by decide +kernel))) rfl, ⟨by decide +kernel, by decide +kernel, by decide +kernel⟩, by decide⟩
def tX2_mayHave : zT := (yX2_mayHave, cX2_mayHave, 4, (some .boolean), 4)
theorem vX2_mayHave : zSok tX2_mayHave := ⟨zin (tb4 (List.mem_of_getElem? (i := 159) (by decide +kernel))) rfl, zin (tb1 (List.mem_of_getElem? (i := 10) (by decide +kernel))) rfl, zin (tb4 (List.mem_of_getElem? (i := 160) (by decide +kernel))) rfl, ⟨by decide +kernel, by decide +kernel, by decide +kernel⟩, by decide⟩
def tX2_worthWith : zT := (yX2_worthWith, cX2_worthWith, 5, (some .int), 4)
theorem vX2_worthWith : zVok tX2_worthWith := ⟨zin (tb4 (List.mem_of_getElem? (i := 163) (by decide +kernel))) rfl, zin (List.mem_append_left _ (List.mem_of_getElem? (i := 44) (by decide +kernel))) rfl, zin (tb1 (List.mem_of_getElem? (i := 10) (by decide +kernel))) rfl, zin (tb4 (List.mem_of_getElem? (i := 164) (by decide +kernel))) rfl, ⟨by decide +kernel, by decide +kernel, by decide +kernel⟩, by decide⟩
def tX2_choose : zT := (yX2_choose, cX2_choose, 5, none, 2)
theorem vX2_choose : zVok tX2_choose := ⟨zin (tb4 (List.mem_of_getElem? (i := 168) (by decide +kernel))) rfl, zin (List.mem_append_left _ (List.mem_of_getElem? (i := 45) (by decide +kernel))) rfl, zin (tb1 (List.mem_of_getElem? (i := 10) (by decide +kernel))) rfl, zin (tb4 (List.mem_of_getElem? (i := 169) (by decide +kernel))) rfl, ⟨by decide +kernel, by decide +kernel, by decide +kernel⟩, by decide⟩
def tX2_firstOf : zT := (yX2_firstOf, cX2_firstOf, 5, (some .int), 3)
theorem vX2_firstOf : zVok tX2_firstOf := ⟨zin (tb4 (List.mem_of_getElem? (i := 172) (by decide +kernel))) rfl, zin (List.mem_append_left _ (List.mem_of_getElem? (i := 46) (by decide +kernel))) rfl, zin (tb1 (List.mem_of_getElem? (i := 10) (by decide +kernel))) rfl, zin (tb4 (List.mem_of_getElem? (i := 173) (by decide +kernel))) rfl, ⟨by decide +kernel, by decide +kernel, by decide +kernel⟩, by decide⟩
def tX9_next : zT := (yX9_next, cX9_next, 6, (some .int), 1)
theorem vX9_next : zVok tX9_next := ⟨zin (tb4 (List.mem_of_getElem? (i := 175) (by decide +kernel))) rfl, zin (tb4 (List.mem_of_getElem? (i := 176) (by decide +kernel))) rfl, zin (tb1 (List.mem_of_getElem? (i := 1) (by decide +kernel))) rfl, zin (tb4 (List.mem_of_getElem? (i := 177) (by decide +kernel))) rfl, ⟨by decide +kernel, by decide +kernel, by decide +kernel⟩, by decide⟩
def tX9_order : zT := (yX9_order, cX9_order, 6, (some .int), 1)
theorem vX9_order : zVok tX9_order := ⟨zin (tb4 (List.mem_of_getElem? (i := 179) (by decide +kernel))) rfl, zin (tb4 (List.mem_of_getElem? (i := 180) (by decide +kernel))) rfl, zin (tb1 (List.mem_of_getElem? (i := 1) (by decide +kernel))) rfl, zin (tb4 (List.mem_of_getElem? (i := 181) (by decide +kernel))) rfl, ⟨by decide +kernel, by decide +kernel, by decide +kernel⟩, by decide⟩
def tX9_worthOfRow : zT := (yX9_worthOfRow, cX9_worthOfRow, 3, (some .int), 1)
theorem vX9_worthOfRow : zVok tX9_worthOfRow := ⟨zin (tb4 (List.mem_of_getElem? (i := 184) (by decide +kernel))) rfl, zin (List.mem_append_left _ (List.mem_of_getElem? (i := 47) (by decide +kernel))) rfl, zin (tb1 (List.mem_of_getElem? (i := 1) (by decide +kernel))) rfl, zin (tb4 (List.mem_of_getElem? (i := 185) (by decide +kernel))) rfl, ⟨by decide +kernel, by decide +kernel, by decide +kernel⟩, by decide⟩
def tX9_turnRow : zT := (yX9_turnRow, cX9_turnRow, 6, (some .boolean), 1)
theorem vX9_turnRow : zVok tX9_turnRow := ⟨zin (tb4 (List.mem_of_getElem? (i := 189) (by decide +kernel))) rfl, zin (List.mem_append_left _ (List.mem_of_getElem? (i := 48) (by decide +kernel))) rfl, zin (tb1 (List.mem_of_getElem? (i := 1) (by decide +kernel))) rfl, zin (tb4 (List.mem_of_getElem? (i := 190) (by decide +kernel))) rfl, ⟨by decide +kernel, by decide +kernel, by decide +kernel⟩, by decide⟩
def tX9_changeInRow : zT := (yX9_changeInRow, cX9_changeInRow, 4, none, 2)
theorem vX9_changeInRow : zVok tX9_changeInRow := ⟨zin (tb4 (List.mem_of_getElem? (i := 193) (by decide +kernel))) rfl, zin (List.mem_append_left _ (List.mem_of_getElem? (i := 49) (by decide +kernel))) rfl, zin (tb1 (List.mem_of_getElem? (i := 1) (by decide +kernel))) rfl, zin (tb4 (List.mem_of_getElem? (i := 194) (by decide +kernel))) rfl, ⟨by decide +kernel, by decide +kernel, by decide +kernel⟩, by decide⟩
def tX9_rests : zT := (yX9_rests, cX9_rests, 5, (some .int), 2)
theorem vX9_rests : zVok tX9_rests := ⟨zin (tb4 (List.mem_of_getElem? (i := 196) (by decide +kernel))) rfl, zin (tb4 (List.mem_of_getElem? (i := 197) (by decide +kernel))) rfl, zin (tb1 (List.mem_of_getElem? (i := 1) (by decide +kernel))) rfl, zin (tb4 (List.mem_of_getElem? (i := 198) (by decide +kernel))) rfl, ⟨by decide +kernel, by decide +kernel, by decide +kernel⟩, by decide⟩
def tX9_isRest : zT := (yX9_isRest, cX9_isRest, 6, (some .boolean), 3)
theorem vX9_isRest : zVok tX9_isRest := ⟨zin (tb4 (List.mem_of_getElem? (i := 201) (by decide +kernel))) rfl, zin (List.mem_append_left _ (List.mem_of_getElem? (i := 50) (by decide +kernel))) rfl, zin (tb1 (List.mem_of_getElem? (i := 1) (by decide +kernel))) rfl, zin (tb4 (List.mem_of_getElem? (i := 202) (by decide +kernel))) rfl, ⟨by decide +kernel, by decide +kernel, by decide +kernel⟩, by decide⟩
def tX9_gain : zT := (yX9_gain, cX9_gain, 5, (some .int), 3)
theorem vX9_gain : zVok tX9_gain := ⟨zin (tb4 (List.mem_of_getElem? (i := 205) (by decide +kernel))) rfl, zin (List.mem_append_left _ (List.mem_of_getElem? (i := 51) (by decide +kernel))) rfl, zin (tb1 (List.mem_of_getElem? (i := 1) (by decide +kernel))) rfl, zin (tb4 (List.mem_of_getElem? (i := 206) (by decide +kernel))) rfl, ⟨by decide +kernel, by decide +kernel, by decide +kernel⟩, by decide⟩
def tX9_rest : zT := (yX9_rest, cX9_rest, 6, (some .int), 3)
theorem vX9_rest : zVok tX9_rest := ⟨zin (tb4 (List.mem_of_getElem? (i := 208) (by decide +kernel))) rfl, zin (tb4 (List.mem_of_getElem? (i := 209) (by decide +kernel))) rfl, zin (tb1 (List.mem_of_getElem? (i := 1) (by decide +kernel))) rfl, zin (tb4 (List.mem_of_getElem? (i := 210) (by decide +kernel))) rfl, ⟨by decide +kernel, by decide +kernel, by decide +kernel⟩, by decide⟩
def tX9_comesBack : zT := (yX9_comesBack, cX9_comesBack, 11, (some .long), 2)
theorem vX9_comesBack : zVok tX9_comesBack := ⟨zin (tb4 (List.mem_of_getElem? (i := 212) (by decide +kernel))) rfl, zin (tb4 (List.mem_of_getElem? (i := 213) (by decide +kernel))) rfl, zin (tb1 (List.mem_of_getElem? (i := 1) (by decide +kernel))) rfl, zin (tb4 (List.mem_of_getElem? (i := 214) (by decide +kernel))) rfl, ⟨by decide +kernel, by decide +kernel, by decide +kernel⟩, by decide⟩
def tX9_commonDivisor : zT := (yX9_commonDivisor, cX9_commonDivisor, 6, (some .int), 2)
theorem vX9_commonDivisor : zSok tX9_commonDivisor := ⟨zin (tb4 (List.mem_of_getElem? (i := 217) (by decide +kernel))) rfl, zin (tb1 (List.mem_of_getElem? (i := 1) (by decide +kernel))) rfl, zin (tb4 (List.mem_of_getElem? (i := 218) (by decide +kernel))) rfl, ⟨by decide +kernel, by decide +kernel, by decide +kernel⟩, by decide⟩
def tX9_widow : zT := (yX9_widow, cX9_widow, 6, (some .int), 2)
theorem vX9_widow : zVok tX9_widow := ⟨zin (tb4 (List.mem_of_getElem? (i := 220) (by decide +kernel))) rfl, zin (tb4 (List.mem_of_getElem? (i := 221) (by decide +kernel))) rfl, zin (tb1 (List.mem_of_getElem? (i := 1) (by decide +kernel))) rfl, zin (tb4 (List.mem_of_getElem? (i := 222) (by decide +kernel))) rfl, ⟨by decide +kernel, by decide +kernel, by decide +kernel⟩, by decide⟩
def tX9_see : zT := (yX9_see, cX9_see, 4, (some .int), 3)
theorem vX9_see : zVok tX9_see := ⟨zin (tb4 (List.mem_of_getElem? (i := 224) (by decide +kernel))) rfl, zin (tb4 (List.mem_of_getElem? (i := 225) (by decide +kernel))) rfl, zin (tb1 (List.mem_of_getElem? (i := 1) (by decide +kernel))) rfl, zin (tb4 (List.mem_of_getElem? (i := 226) (by decide +kernel))) rfl, ⟨by decide +kernel, by decide +kernel, by decide +kernel⟩, by decide⟩
def tX4_note : zT := (yX4_note, cX4_note, 5, (some .int), 4)
theorem vX4_note : zVok tX4_note := ⟨zin (tb4 (List.mem_of_getElem? (i := 228) (by decide +kernel))) rfl, zin (tb4 (List.mem_of_getElem? (i := 229) (by decide +kernel))) rfl, zin (tb1 (List.mem_of_getElem? (i := 9) (by decide +kernel))) rfl, zin (tb4 (List.mem_of_getElem? (i := 230) (by decide +kernel))) rfl, ⟨by decide +kernel, by decide +kernel, by decide +kernel⟩, by decide⟩
def tX9_strike : zT := (yX9_strike, cX9_strike, 2, (some .int), 1)
theorem vX9_strike : zVok tX9_strike := ⟨zin (tb4 (List.mem_of_getElem? (i := 232) (by decide +kernel))) rfl, zin (tb4 (List.mem_of_getElem? (i := 233) (by decide +kernel))) rfl, zin (tb1 (List.mem_of_getElem? (i := 1) (by decide +kernel))) rfl, zin (tb4 (List.mem_of_getElem? (i := 234) (by decide +kernel))) rfl, ⟨by decide +kernel, by decide +kernel, by decide +kernel⟩, by decide⟩
def tX9_known : zT := (yX9_known, cX9_known, 2, (some .boolean), 1)
theorem vX9_known : zVok tX9_known := ⟨zin (tb4 (List.mem_of_getElem? (i := 236) (by decide +kernel))) rfl, zin (tb4 (List.mem_of_getElem? (i := 237) (by decide +kernel))) rfl, zin (tb1 (List.mem_of_getElem? (i := 1) (by decide +kernel))) rfl, zin (tb4 (List.mem_of_getElem? (i := 238) (by decide +kernel))) rfl, ⟨by decide +kernel, by decide +kernel, by decide +kernel⟩, by decide⟩
def tX9_rues : zT := (yX9_rues, cX9_rues, 5, (some .int), 1)
theorem vX9_rues : zVok tX9_rues := ⟨zin (tb5 (List.mem_of_getElem? (i := 0) (by decide +kernel))) rfl, zin (tb5 (List.mem_of_getElem? (i := 1) (by decide +kernel))) rfl, zin (tb1 (List.mem_of_getElem? (i := 1) (by decide +kernel))) rfl, zin (tb5 (List.mem_of_getElem? (i := 2) (by decide +kernel))) rfl, ⟨by decide +kernel, by decide +kernel, by decide +kernel⟩, by decide⟩
def tX4_markKnown : zT := (yX4_markKnown, cX4_markKnown, 4, (some .int), 0)
theorem vX4_markKnown : zVok tX4_markKnown := ⟨zin (tb5 (List.mem_of_getElem? (i := 4) (by decide +kernel))) rfl, zin (tb5 (List.mem_of_getElem? (i := 5) (by decide +kernel))) rfl, zin (tb1 (List.mem_of_getElem? (i := 9) (by decide +kernel))) rfl, zin (tb5 (List.mem_of_getElem? (i := 6) (by decide +kernel))) rfl, ⟨by decide +kernel, by decide +kernel, by decide +kernel⟩, by decide⟩
def tX9_agrees : zT := (yX9_agrees, cX9_agrees, 5, (some .boolean), 3)
theorem vX9_agrees : zVok tX9_agrees := ⟨zin (tb5 (List.mem_of_getElem? (i := 12) (by decide +kernel))) rfl, zin (List.mem_append_left _ (List.mem_of_getElem? (i := 52) (by decide +kernel))) rfl, zin (tb1 (List.mem_of_getElem? (i := 1) (by decide +kernel))) rfl, zin (tb5 (List.mem_of_getElem? (i := 13) (by decide +kernel))) rfl, ⟨by decide +kernel, by decide +kernel, by decide +kernel⟩, by decide⟩
def tX4_fits : zT := (yX4_fits, cX4_fits, 4, (some .boolean), 2)
theorem vX4_fits : zVok tX4_fits := ⟨zin (tb5 (List.mem_of_getElem? (i := 15) (by decide +kernel))) rfl, zin (tb5 (List.mem_of_getElem? (i := 16) (by decide +kernel))) rfl, zin (tb1 (List.mem_of_getElem? (i := 9) (by decide +kernel))) rfl, zin (tb5 (List.mem_of_getElem? (i := 17) (by decide +kernel))) rfl, ⟨by decide +kernel, by decide +kernel, by decide +kernel⟩, by decide⟩
def tX9_man : zT := (yX9_man, cX9_man, 3, (some .int), 2)
theorem vX9_man : zVok tX9_man := ⟨zin (tb5 (List.mem_of_getElem? (i := 24) (by decide +kernel))) rfl, zin (tb5 (List.mem_of_getElem? (i := 25) (by decide +kernel))) rfl, zin (tb1 (List.mem_of_getElem? (i := 1) (by decide +kernel))) rfl, zin (tb5 (List.mem_of_getElem? (i := 26) (by decide +kernel))) rfl, ⟨by decide +kernel, by decide +kernel, by decide +kernel⟩, by decide⟩
def tX10_init : zT := (yX10_init, cX10_init, 1, none, 0)
def tX10_begins : zT := (yX10_begins, cX10_begins, 1, none, 0)
theorem vX10_begins : zVok tX10_begins := ⟨zin (tb5 (List.mem_of_getElem? (i := 118) (by decide +kernel))) rfl, zin (List.mem_append_left _ (List.mem_of_getElem? (i := 54) (by decide +kernel))) rfl, zin (tb1 (List.mem_of_getElem? (i := 11) (by decide +kernel))) rfl, zin (tb5 (List.mem_of_getElem? (i := 119) (by decide +kernel))) rfl, ⟨by decide +kernel, by decide +kernel, by decide +kernel⟩, by decide⟩
def tX10_starts : zT := (yX10_starts, cX10_starts, 4, none, 1)
theorem vX10_starts : zVok tX10_starts := ⟨zin (tb5 (List.mem_of_getElem? (i := 122) (by decide +kernel))) rfl, zin (List.mem_append_left _ (List.mem_of_getElem? (i := 55) (by decide +kernel))) rfl, zin (tb1 (List.mem_of_getElem? (i := 11) (by decide +kernel))) rfl, zin (tb5 (List.mem_of_getElem? (i := 123) (by decide +kernel))) rfl, ⟨by decide +kernel, by decide +kernel, by decide +kernel⟩, by decide⟩
def tX10_thrown : zT := (yX10_thrown, cX10_thrown, 1, (some .int), 0)
theorem vX10_thrown : zVok tX10_thrown := ⟨zin (tb6 (List.mem_of_getElem? (i := 90) (by decide +kernel))) rfl, zin (tb6 (List.mem_of_getElem? (i := 91) (by decide +kernel))) rfl, zin (tb1 (List.mem_of_getElem? (i := 11) (by decide +kernel))) rfl, zin (tb6 (List.mem_of_getElem? (i := 92) (by decide +kernel))) rfl, ⟨by decide +kernel, by decide +kernel, by decide +kernel⟩, by decide⟩
def tX10_feed : zT := (yX10_feed, cX10_feed, 8, (some .int), 5)
theorem vX10_feed : zVok tX10_feed := ⟨zin (tb6 (List.mem_of_getElem? (i := 94) (by decide +kernel))) rfl, zin (tb6 (List.mem_of_getElem? (i := 95) (by decide +kernel))) rfl, zin (tb1 (List.mem_of_getElem? (i := 11) (by decide +kernel))) rfl, zin (tb6 (List.mem_of_getElem? (i := 96) (by decide +kernel))) rfl, ⟨by decide +kernel, by decide +kernel, by decide +kernel⟩, by decide⟩
def tX10_text : zT := (yX10_text, cX10_text, 3, (some .int), 1)
theorem vX10_text : zVok tX10_text := ⟨zin (tb6 (List.mem_of_getElem? (i := 98) (by decide +kernel))) rfl, zin (tb6 (List.mem_of_getElem? (i := 99) (by decide +kernel))) rfl, zin (tb1 (List.mem_of_getElem? (i := 11) (by decide +kernel))) rfl, zin (tb6 (List.mem_of_getElem? (i := 100) (by decide +kernel))) rfl, ⟨by decide +kernel, by decide +kernel, by decide +kernel⟩, by decide⟩
def tX10_reads : zT := (yX10_reads, cX10_reads, 3, none, 2)
theorem vX10_reads : zVok tX10_reads := ⟨zin (tb6 (List.mem_of_getElem? (i := 103) (by decide +kernel))) rfl, zin (List.mem_append_left _ (List.mem_of_getElem? (i := 56) (by decide +kernel))) rfl, zin (tb1 (List.mem_of_getElem? (i := 11) (by decide +kernel))) rfl, zin (tb6 (List.mem_of_getElem? (i := 104) (by decide +kernel))) rfl, ⟨by decide +kernel, by decide +kernel, by decide +kernel⟩, by decide⟩
def tX10_token : zT := (yX10_token, cX10_token, 2, none, 0)
theorem vX10_token : zVok tX10_token := ⟨zin (tb6 (List.mem_of_getElem? (i := 107) (by decide +kernel))) rfl, zin (List.mem_append_left _ (List.mem_of_getElem? (i := 57) (by decide +kernel))) rfl, zin (tb1 (List.mem_of_getElem? (i := 11) (by decide +kernel))) rfl, zin (tb6 (List.mem_of_getElem? (i := 108) (by decide +kernel))) rfl, ⟨by decide +kernel, by decide +kernel, by decide +kernel⟩, by decide⟩
def tX10_here : zT := (yX10_here, cX10_here, 1, (some .int), 0)
theorem vX10_here : zVok tX10_here := ⟨zin (tb6 (List.mem_of_getElem? (i := 111) (by decide +kernel))) rfl, zin (List.mem_append_left _ (List.mem_of_getElem? (i := 58) (by decide +kernel))) rfl, zin (tb1 (List.mem_of_getElem? (i := 11) (by decide +kernel))) rfl, zin (tb6 (List.mem_of_getElem? (i := 112) (by decide +kernel))) rfl, ⟨by decide +kernel, by decide +kernel, by decide +kernel⟩, by decide⟩
def tX10_isSmall : zT := (yX10_isSmall, cX10_isSmall, 1, (some .boolean), 1)
theorem vX10_isSmall : zSok tX10_isSmall := ⟨zin (tb6 (List.mem_of_getElem? (i := 114) (by decide +kernel))) rfl, zin (tb1 (List.mem_of_getElem? (i := 11) (by decide +kernel))) rfl, zin (tb6 (List.mem_of_getElem? (i := 115) (by decide +kernel))) rfl, ⟨by decide +kernel, by decide +kernel, by decide +kernel⟩, by decide⟩
def tX10_word : zT := (yX10_word, cX10_word, 4, (some .int), 0)
theorem vX10_word : zVok tX10_word := ⟨zin (tb6 (List.mem_of_getElem? (i := 118) (by decide +kernel))) rfl, zin (List.mem_append_left _ (List.mem_of_getElem? (i := 59) (by decide +kernel))) rfl, zin (tb1 (List.mem_of_getElem? (i := 11) (by decide +kernel))) rfl, zin (tb6 (List.mem_of_getElem? (i := 119) (by decide +kernel))) rfl, ⟨by decide +kernel, by decide +kernel, by decide +kernel⟩, by decide⟩
def tX10_name : zT := (yX10_name, cX10_name, 2, none, 0)
theorem vX10_name : zVok tX10_name := ⟨zin (tb6 (List.mem_of_getElem? (i := 171) (by decide +kernel))) rfl, zin (List.mem_append_left _ (List.mem_of_getElem? (i := 60) (by decide +kernel))) rfl, zin (tb1 (List.mem_of_getElem? (i := 11) (by decide +kernel))) rfl, zin (tb6 (List.mem_of_getElem? (i := 172) (by decide +kernel))) rfl, ⟨by decide +kernel, by decide +kernel, by decide +kernel⟩, by decide⟩
def tX10_isDigit : zT := (yX10_isDigit, cX10_isDigit, 1, (some .boolean), 1)
theorem vX10_isDigit : zSok tX10_isDigit := ⟨zin (tb6 (List.mem_of_getElem? (i := 174) (by decide +kernel))) rfl, zin (tb1 (List.mem_of_getElem? (i := 11) (by decide +kernel))) rfl, zin (tb6 (List.mem_of_getElem? (i := 175) (by decide +kernel))) rfl, ⟨by decide +kernel, by decide +kernel, by decide +kernel⟩, by decide⟩
def tX10_sign : zT := (yX10_sign, cX10_sign, 2, none, 1)
theorem vX10_sign : zVok tX10_sign := ⟨zin (tb6 (List.mem_of_getElem? (i := 179) (by decide +kernel))) rfl, zin (List.mem_append_left _ (List.mem_of_getElem? (i := 61) (by decide +kernel))) rfl, zin (tb1 (List.mem_of_getElem? (i := 11) (by decide +kernel))) rfl, zin (tb6 (List.mem_of_getElem? (i := 180) (by decide +kernel))) rfl, ⟨by decide +kernel, by decide +kernel, by decide +kernel⟩, by decide⟩
def tX10_line : zT := (yX10_line, cX10_line, 5, none, 0)
theorem vX10_line : zVok tX10_line := ⟨zin (tb6 (List.mem_of_getElem? (i := 183) (by decide +kernel))) rfl, zin (List.mem_append_left _ (List.mem_of_getElem? (i := 62) (by decide +kernel))) rfl, zin (tb1 (List.mem_of_getElem? (i := 11) (by decide +kernel))) rfl, zin (tb6 (List.mem_of_getElem? (i := 184) (by decide +kernel))) rfl, ⟨by decide +kernel, by decide +kernel, by decide +kernel⟩, by decide⟩
def tX10_wrong : zT := (yX10_wrong, cX10_wrong, 2, none, 1)
theorem vX10_wrong : zVok tX10_wrong := ⟨zin (tb6 (List.mem_of_getElem? (i := 187) (by decide +kernel))) rfl, zin (List.mem_append_left _ (List.mem_of_getElem? (i := 63) (by decide +kernel))) rfl, zin (tb1 (List.mem_of_getElem? (i := 11) (by decide +kernel))) rfl, zin (tb6 (List.mem_of_getElem? (i := 188) (by decide +kernel))) rfl, ⟨by decide +kernel, by decide +kernel, by decide +kernel⟩, by decide⟩
def tX10_isFull : zT := (yX10_isFull, cX10_isFull, 2, (some .boolean), 1)
theorem vX10_isFull : zVok tX10_isFull := ⟨zin (tb6 (List.mem_of_getElem? (i := 191) (by decide +kernel))) rfl, zin (List.mem_append_left _ (List.mem_of_getElem? (i := 64) (by decide +kernel))) rfl, zin (tb1 (List.mem_of_getElem? (i := 11) (by decide +kernel))) rfl, zin (tb6 (List.mem_of_getElem? (i := 192) (by decide +kernel))) rfl, ⟨by decide +kernel, by decide +kernel, by decide +kernel⟩, by decide⟩
def tX10_fresher : zT := (yX10_fresher, cX10_fresher, 2, (some .int), 1)
theorem vX10_fresher : zVok tX10_fresher := ⟨zin (tb6 (List.mem_of_getElem? (i := 195) (by decide +kernel))) rfl, zin (List.mem_append_left _ (List.mem_of_getElem? (i := 65) (by decide +kernel))) rfl, zin (tb1 (List.mem_of_getElem? (i := 11) (by decide +kernel))) rfl, zin (tb6 (List.mem_of_getElem? (i := 196) (by decide +kernel))) rfl, ⟨by decide +kernel, by decide +kernel, by decide +kernel⟩, by decide⟩
def tX10_fresh : zT := (yX10_fresh, cX10_fresh, 5, (some .int), 3)
theorem vX10_fresh : zVok tX10_fresh := ⟨zin (tb6 (List.mem_of_getElem? (i := 199) (by decide +kernel))) rfl, zin (List.mem_append_left _ (List.mem_of_getElem? (i := 66) (by decide +kernel))) rfl, zin (tb1 (List.mem_of_getElem? (i := 11) (by decide +kernel))) rfl, zin (tb6 (List.mem_of_getElem? (i := 200) (by decide +kernel))) rfl, ⟨by decide +kernel, by decide +kernel, by decide +kernel⟩, by decide⟩
def tX10_found : zT := (yX10_found, cX10_found, 5, (some .int), 4)
theorem vX10_found : zSok tX10_found := ⟨zin (tb6 (List.mem_of_getElem? (i := 202) (by decide +kernel))) rfl, zin (tb1 (List.mem_of_getElem? (i := 11) (by decide +kernel))) rfl, zin (tb6 (List.mem_of_getElem? (i := 203) (by decide +kernel))) rfl, ⟨by decide +kernel, by decide +kernel, by decide +kernel⟩, by decide⟩
def tX10_numeral : zT := (yX10_numeral, cX10_numeral, 4, (some .int), 2)
theorem vX10_numeral : zVok tX10_numeral := ⟨zin (tb6 (List.mem_of_getElem? (i := 206) (by decide +kernel))) rfl, zin (List.mem_append_left _ (List.mem_of_getElem? (i := 67) (by decide +kernel))) rfl, zin (tb1 (List.mem_of_getElem? (i := 11) (by decide +kernel))) rfl, zin (tb6 (List.mem_of_getElem? (i := 207) (by decide +kernel))) rfl, ⟨by decide +kernel, by decide +kernel, by decide +kernel⟩, by decide⟩
def tX10_manAhead : zT := (yX10_manAhead, cX10_manAhead, 2, (some .int), 0)
theorem vX10_manAhead : zVok tX10_manAhead := ⟨zin (tb6 (List.mem_of_getElem? (i := 210) (by decide +kernel))) rfl, zin (List.mem_append_left _ (List.mem_of_getElem? (i := 68) (by decide +kernel))) rfl, zin (tb1 (List.mem_of_getElem? (i := 11) (by decide +kernel))) rfl, zin (tb6 (List.mem_of_getElem? (i := 211) (by decide +kernel))) rfl, ⟨by decide +kernel, by decide +kernel, by decide +kernel⟩, by decide⟩
def tX10_goOn : zT := (yX10_goOn, cX10_goOn, 1, none, 0)
theorem vX10_goOn : zVok tX10_goOn := ⟨zin (tb6 (List.mem_of_getElem? (i := 214) (by decide +kernel))) rfl, zin (List.mem_append_left _ (List.mem_of_getElem? (i := 69) (by decide +kernel))) rfl, zin (tb1 (List.mem_of_getElem? (i := 11) (by decide +kernel))) rfl, zin (tb6 (List.mem_of_getElem? (i := 215) (by decide +kernel))) rfl, ⟨by decide +kernel, by decide +kernel, by decide +kernel⟩, by decide⟩
def tX10_lawLine : zT := (yX10_lawLine, cX10_lawLine, 2, none, 0)
theorem vX10_lawLine : zVok tX10_lawLine := ⟨zin (tb6 (List.mem_of_getElem? (i := 218) (by decide +kernel))) rfl, zin (List.mem_append_left _ (List.mem_of_getElem? (i := 70) (by decide +kernel))) rfl, zin (tb1 (List.mem_of_getElem? (i := 11) (by decide +kernel))) rfl, zin (tb6 (List.mem_of_getElem? (i := 219) (by decide +kernel))) rfl, ⟨by decide +kernel, by decide +kernel, by decide +kernel⟩, by decide⟩
def tX10_expression : zT := (yX10_expression, cX10_expression, 1, none, 0)
theorem vX10_expression : zVok tX10_expression := ⟨zin (tb6 (List.mem_of_getElem? (i := 222) (by decide +kernel))) rfl, zin (List.mem_append_left _ (List.mem_of_getElem? (i := 71) (by decide +kernel))) rfl, zin (tb1 (List.mem_of_getElem? (i := 11) (by decide +kernel))) rfl, zin (tb6 (List.mem_of_getElem? (i := 223) (by decide +kernel))) rfl, ⟨by decide +kernel, by decide +kernel, by decide +kernel⟩, by decide⟩
def tX10_conjunction : zT := (yX10_conjunction, cX10_conjunction, 1, none, 0)
theorem vX10_conjunction : zVok tX10_conjunction := ⟨zin (tb6 (List.mem_of_getElem? (i := 226) (by decide +kernel))) rfl, zin (List.mem_append_left _ (List.mem_of_getElem? (i := 72) (by decide +kernel))) rfl, zin (tb1 (List.mem_of_getElem? (i := 11) (by decide +kernel))) rfl, zin (tb6 (List.mem_of_getElem? (i := 227) (by decide +kernel))) rfl, ⟨by decide +kernel, by decide +kernel, by decide +kernel⟩, by decide⟩
def tX10_negation : zT := (yX10_negation, cX10_negation, 2, none, 0)
theorem vX10_negation : zVok tX10_negation := ⟨zin (tb6 (List.mem_of_getElem? (i := 230) (by decide +kernel))) rfl, zin (List.mem_append_left _ (List.mem_of_getElem? (i := 73) (by decide +kernel))) rfl, zin (tb1 (List.mem_of_getElem? (i := 11) (by decide +kernel))) rfl, zin (tb6 (List.mem_of_getElem? (i := 231) (by decide +kernel))) rfl, ⟨by decide +kernel, by decide +kernel, by decide +kernel⟩, by decide⟩
def tX10_isWord : zT := (yX10_isWord, cX10_isWord, 2, (some .boolean), 1)
theorem vX10_isWord : zVok tX10_isWord := ⟨zin (tb6 (List.mem_of_getElem? (i := 234) (by decide +kernel))) rfl, zin (List.mem_append_left _ (List.mem_of_getElem? (i := 74) (by decide +kernel))) rfl, zin (tb1 (List.mem_of_getElem? (i := 11) (by decide +kernel))) rfl, zin (tb6 (List.mem_of_getElem? (i := 235) (by decide +kernel))) rfl, ⟨by decide +kernel, by decide +kernel, by decide +kernel⟩, by decide⟩
def tX10_knot : zT := (yX10_knot, cX10_knot, 1, none, 0)
theorem vX10_knot : zVok tX10_knot := ⟨zin (tb6 (List.mem_of_getElem? (i := 238) (by decide +kernel))) rfl, zin (List.mem_append_left _ (List.mem_of_getElem? (i := 75) (by decide +kernel))) rfl, zin (tb1 (List.mem_of_getElem? (i := 11) (by decide +kernel))) rfl, zin (tb6 (List.mem_of_getElem? (i := 239) (by decide +kernel))) rfl, ⟨by decide +kernel, by decide +kernel, by decide +kernel⟩, by decide⟩
def tX10_puts : zT := (yX10_puts, cX10_puts, 3, none, 2)
theorem vX10_puts : zVok tX10_puts := ⟨zin (tb7 (List.mem_of_getElem? (i := 2) (by decide +kernel))) rfl, zin (List.mem_append_left _ (List.mem_of_getElem? (i := 76) (by decide +kernel))) rfl, zin (tb1 (List.mem_of_getElem? (i := 11) (by decide +kernel))) rfl, zin (tb7 (List.mem_of_getElem? (i := 3) (by decide +kernel))) rfl, ⟨by decide +kernel, by decide +kernel, by decide +kernel⟩, by decide⟩
def tX10_sum : zT := (yX10_sum, cX10_sum, 2, none, 0)
theorem vX10_sum : zVok tX10_sum := ⟨zin (tb7 (List.mem_of_getElem? (i := 6) (by decide +kernel))) rfl, zin (List.mem_append_left _ (List.mem_of_getElem? (i := 77) (by decide +kernel))) rfl, zin (tb1 (List.mem_of_getElem? (i := 11) (by decide +kernel))) rfl, zin (tb7 (List.mem_of_getElem? (i := 7) (by decide +kernel))) rfl, ⟨by decide +kernel, by decide +kernel, by decide +kernel⟩, by decide⟩
def tX10_product : zT := (yX10_product, cX10_product, 2, none, 0)
theorem vX10_product : zVok tX10_product := ⟨zin (tb7 (List.mem_of_getElem? (i := 10) (by decide +kernel))) rfl, zin (List.mem_append_left _ (List.mem_of_getElem? (i := 78) (by decide +kernel))) rfl, zin (tb1 (List.mem_of_getElem? (i := 11) (by decide +kernel))) rfl, zin (tb7 (List.mem_of_getElem? (i := 11) (by decide +kernel))) rfl, ⟨by decide +kernel, by decide +kernel, by decide +kernel⟩, by decide⟩
def tX10_primary : zT := (yX10_primary, cX10_primary, 2, none, 0)
theorem vX10_primary : zVok tX10_primary := ⟨zin (tb7 (List.mem_of_getElem? (i := 14) (by decide +kernel))) rfl, zin (List.mem_append_left _ (List.mem_of_getElem? (i := 79) (by decide +kernel))) rfl, zin (tb1 (List.mem_of_getElem? (i := 11) (by decide +kernel))) rfl, zin (tb7 (List.mem_of_getElem? (i := 15) (by decide +kernel))) rfl, ⟨by decide +kernel, by decide +kernel, by decide +kernel⟩, by decide⟩
def tX10_isSign : zT := (yX10_isSign, cX10_isSign, 2, (some .boolean), 1)
theorem vX10_isSign : zVok tX10_isSign := ⟨zin (tb7 (List.mem_of_getElem? (i := 18) (by decide +kernel))) rfl, zin (List.mem_append_left _ (List.mem_of_getElem? (i := 80) (by decide +kernel))) rfl, zin (tb1 (List.mem_of_getElem? (i := 11) (by decide +kernel))) rfl, zin (tb7 (List.mem_of_getElem? (i := 19) (by decide +kernel))) rfl, ⟨by decide +kernel, by decide +kernel, by decide +kernel⟩, by decide⟩
def tX10_half : zT := (yX10_half, cX10_half, 3, none, 1)
theorem vX10_half : zSok tX10_half := ⟨zin (tb7 (List.mem_of_getElem? (i := 21) (by decide +kernel))) rfl, zin (tb1 (List.mem_of_getElem? (i := 11) (by decide +kernel))) rfl, zin (tb7 (List.mem_of_getElem? (i := 22) (by decide +kernel))) rfl, ⟨by decide +kernel, by decide +kernel, by decide +kernel⟩, by decide⟩
def tX10_fault : zT := (yX10_fault, cX10_fault, 2, (some .int), 1)
theorem vX10_fault : zVok tX10_fault := ⟨zin (tb7 (List.mem_of_getElem? (i := 24) (by decide +kernel))) rfl, zin (tb7 (List.mem_of_getElem? (i := 25) (by decide +kernel))) rfl, zin (tb1 (List.mem_of_getElem? (i := 11) (by decide +kernel))) rfl, zin (tb7 (List.mem_of_getElem? (i := 26) (by decide +kernel))) rfl, ⟨by decide +kernel, by decide +kernel, by decide +kernel⟩, by decide⟩
def tX10_named : zT := (yX10_named, cX10_named, 3, (some .int), 2)
theorem vX10_named : zVok tX10_named := ⟨zin (tb7 (List.mem_of_getElem? (i := 28) (by decide +kernel))) rfl, zin (tb7 (List.mem_of_getElem? (i := 29) (by decide +kernel))) rfl, zin (tb1 (List.mem_of_getElem? (i := 11) (by decide +kernel))) rfl, zin (tb7 (List.mem_of_getElem? (i := 30) (by decide +kernel))) rfl, ⟨by decide +kernel, by decide +kernel, by decide +kernel⟩, by decide⟩
def tX10_man : zT := (yX10_man, cX10_man, 3, (some .int), 2)
theorem vX10_man : zVok tX10_man := ⟨zin (tb7 (List.mem_of_getElem? (i := 32) (by decide +kernel))) rfl, zin (tb7 (List.mem_of_getElem? (i := 33) (by decide +kernel))) rfl, zin (tb1 (List.mem_of_getElem? (i := 11) (by decide +kernel))) rfl, zin (tb7 (List.mem_of_getElem? (i := 34) (by decide +kernel))) rfl, ⟨by decide +kernel, by decide +kernel, by decide +kernel⟩, by decide⟩
def tX10_isMan : zT := (yX10_isMan, cX10_isMan, 2, (some .boolean), 1)
theorem vX10_isMan : zVok tX10_isMan := ⟨zin (tb7 (List.mem_of_getElem? (i := 37) (by decide +kernel))) rfl, zin (List.mem_append_left _ (List.mem_of_getElem? (i := 81) (by decide +kernel))) rfl, zin (tb1 (List.mem_of_getElem? (i := 11) (by decide +kernel))) rfl, zin (tb7 (List.mem_of_getElem? (i := 38) (by decide +kernel))) rfl, ⟨by decide +kernel, by decide +kernel, by decide +kernel⟩, by decide⟩
def tX10_orNone : zT := (yX10_orNone, cX10_orNone, 1, (some .int), 1)
theorem vX10_orNone : zSok tX10_orNone := ⟨zin (tb7 (List.mem_of_getElem? (i := 40) (by decide +kernel))) rfl, zin (tb1 (List.mem_of_getElem? (i := 11) (by decide +kernel))) rfl, zin (tb7 (List.mem_of_getElem? (i := 41) (by decide +kernel))) rfl, ⟨by decide +kernel, by decide +kernel, by decide +kernel⟩, by decide⟩
def tX10_placeOf : zT := (yX10_placeOf, cX10_placeOf, 3, (some .int), 1)
theorem vX10_placeOf : zVok tX10_placeOf := ⟨zin (tb7 (List.mem_of_getElem? (i := 44) (by decide +kernel))) rfl, zin (List.mem_append_left _ (List.mem_of_getElem? (i := 82) (by decide +kernel))) rfl, zin (tb1 (List.mem_of_getElem? (i := 11) (by decide +kernel))) rfl, zin (tb7 (List.mem_of_getElem? (i := 45) (by decide +kernel))) rfl, ⟨by decide +kernel, by decide +kernel, by decide +kernel⟩, by decide⟩
def tX10_thing : zT := (yX10_thing, cX10_thing, 3, (some .int), 2)
theorem vX10_thing : zVok tX10_thing := ⟨zin (tb7 (List.mem_of_getElem? (i := 47) (by decide +kernel))) rfl, zin (tb7 (List.mem_of_getElem? (i := 48) (by decide +kernel))) rfl, zin (tb1 (List.mem_of_getElem? (i := 11) (by decide +kernel))) rfl, zin (tb7 (List.mem_of_getElem? (i := 49) (by decide +kernel))) rfl, ⟨by decide +kernel, by decide +kernel, by decide +kernel⟩, by decide⟩
def tX10_isThing : zT := (yX10_isThing, cX10_isThing, 2, (some .boolean), 1)
theorem vX10_isThing : zVok tX10_isThing := ⟨zin (tb7 (List.mem_of_getElem? (i := 52) (by decide +kernel))) rfl, zin (List.mem_append_left _ (List.mem_of_getElem? (i := 83) (by decide +kernel))) rfl, zin (tb1 (List.mem_of_getElem? (i := 11) (by decide +kernel))) rfl, zin (tb7 (List.mem_of_getElem? (i := 53) (by decide +kernel))) rfl, ⟨by decide +kernel, by decide +kernel, by decide +kernel⟩, by decide⟩
def tX10_goerOf : zT := (yX10_goerOf, cX10_goerOf, 4, (some .int), 2)
theorem vX10_goerOf : zVok tX10_goerOf := ⟨zin (tb7 (List.mem_of_getElem? (i := 56) (by decide +kernel))) rfl, zin (List.mem_append_left _ (List.mem_of_getElem? (i := 84) (by decide +kernel))) rfl, zin (tb1 (List.mem_of_getElem? (i := 11) (by decide +kernel))) rfl, zin (tb7 (List.mem_of_getElem? (i := 57) (by decide +kernel))) rfl, ⟨by decide +kernel, by decide +kernel, by decide +kernel⟩, by decide⟩
def tX10_law : zT := (yX10_law, cX10_law, 3, (some .long), 2)
theorem vX10_law : zVok tX10_law := ⟨zin (tb7 (List.mem_of_getElem? (i := 59) (by decide +kernel))) rfl, zin (tb7 (List.mem_of_getElem? (i := 60) (by decide +kernel))) rfl, zin (tb1 (List.mem_of_getElem? (i := 11) (by decide +kernel))) rfl, zin (tb7 (List.mem_of_getElem? (i := 61) (by decide +kernel))) rfl, ⟨by decide +kernel, by decide +kernel, by decide +kernel⟩, by decide⟩
def tX10_hasLaw : zT := (yX10_hasLaw, cX10_hasLaw, 2, (some .boolean), 1)
theorem vX10_hasLaw : zVok tX10_hasLaw := ⟨zin (tb7 (List.mem_of_getElem? (i := 64) (by decide +kernel))) rfl, zin (List.mem_append_left _ (List.mem_of_getElem? (i := 85) (by decide +kernel))) rfl, zin (tb1 (List.mem_of_getElem? (i := 11) (by decide +kernel))) rfl, zin (tb7 (List.mem_of_getElem? (i := 65) (by decide +kernel))) rfl, ⟨by decide +kernel, by decide +kernel, by decide +kernel⟩, by decide⟩
def tX10_firstLeft : zT := (yX10_firstLeft, cX10_firstLeft, 3, (some .int), 1)
theorem vX10_firstLeft : zVok tX10_firstLeft := ⟨zin (tb7 (List.mem_of_getElem? (i := 69) (by decide +kernel))) rfl, zin (List.mem_append_left _ (List.mem_of_getElem? (i := 86) (by decide +kernel))) rfl, zin (tb1 (List.mem_of_getElem? (i := 11) (by decide +kernel))) rfl, zin (tb7 (List.mem_of_getElem? (i := 70) (by decide +kernel))) rfl, ⟨by decide +kernel, by decide +kernel, by decide +kernel⟩, by decide⟩
def tX10_calls : zT := (yX10_calls, cX10_calls, 5, none, 4)
theorem vX10_calls : zVok tX10_calls := ⟨zin (tb7 (List.mem_of_getElem? (i := 73) (by decide +kernel))) rfl, zin (List.mem_append_left _ (List.mem_of_getElem? (i := 87) (by decide +kernel))) rfl, zin (tb1 (List.mem_of_getElem? (i := 11) (by decide +kernel))) rfl, zin (tb7 (List.mem_of_getElem? (i := 74) (by decide +kernel))) rfl, ⟨by decide +kernel, by decide +kernel, by decide +kernel⟩, by decide⟩
def tX10_comesOut : zT := (yX10_comesOut, cX10_comesOut, 3, (some .boolean), 1)
theorem vX10_comesOut : zVok tX10_comesOut := ⟨zin (tb7 (List.mem_of_getElem? (i := 77) (by decide +kernel))) rfl, zin (List.mem_append_left _ (List.mem_of_getElem? (i := 88) (by decide +kernel))) rfl, zin (tb1 (List.mem_of_getElem? (i := 11) (by decide +kernel))) rfl, zin (tb7 (List.mem_of_getElem? (i := 78) (by decide +kernel))) rfl, ⟨by decide +kernel, by decide +kernel, by decide +kernel⟩, by decide⟩
def tX10_works : zT := (yX10_works, cX10_works, 8, (some .boolean), 1)
theorem vX10_works : zVok tX10_works := ⟨zin (tb7 (List.mem_of_getElem? (i := 81) (by decide +kernel))) rfl, zin (List.mem_append_left _ (List.mem_of_getElem? (i := 89) (by decide +kernel))) rfl, zin (tb1 (List.mem_of_getElem? (i := 11) (by decide +kernel))) rfl, zin (tb7 (List.mem_of_getElem? (i := 82) (by decide +kernel))) rfl, ⟨by decide +kernel, by decide +kernel, by decide +kernel⟩, by decide⟩
def tX10_is : zT := (yX10_is, cX10_is, 1, (some .long), 1)
theorem vX10_is : zSok tX10_is := ⟨zin (tb7 (List.mem_of_getElem? (i := 84) (by decide +kernel))) rfl, zin (tb1 (List.mem_of_getElem? (i := 11) (by decide +kernel))) rfl, zin (tb7 (List.mem_of_getElem? (i := 85) (by decide +kernel))) rfl, ⟨by decide +kernel, by decide +kernel, by decide +kernel⟩, by decide⟩
def tX10_pay : zT := (yX10_pay, cX10_pay, 3, (some .int), 2)
theorem vX10_pay : zVok tX10_pay := ⟨zin (tb7 (List.mem_of_getElem? (i := 92) (by decide +kernel))) rfl, zin (tb7 (List.mem_of_getElem? (i := 93) (by decide +kernel))) rfl, zin (tb1 (List.mem_of_getElem? (i := 11) (by decide +kernel))) rfl, zin (tb7 (List.mem_of_getElem? (i := 94) (by decide +kernel))) rfl, ⟨by decide +kernel, by decide +kernel, by decide +kernel⟩, by decide⟩
def tX10_keepNow : zT := (yX10_keepNow, cX10_keepNow, 2, none, 0)
theorem vX10_keepNow : zVok tX10_keepNow := ⟨zin (tb7 (List.mem_of_getElem? (i := 97) (by decide +kernel))) rfl, zin (List.mem_append_left _ (List.mem_of_getElem? (i := 90) (by decide +kernel))) rfl, zin (tb1 (List.mem_of_getElem? (i := 11) (by decide +kernel))) rfl, zin (tb7 (List.mem_of_getElem? (i := 98) (by decide +kernel))) rfl, ⟨by decide +kernel, by decide +kernel, by decide +kernel⟩, by decide⟩
def tX10_copies : zT := (yX10_copies, cX10_copies, 6, none, 2)
theorem vX10_copies : zVok tX10_copies := ⟨zin (tb7 (List.mem_of_getElem? (i := 101) (by decide +kernel))) rfl, zin (List.mem_append_left _ (List.mem_of_getElem? (i := 91) (by decide +kernel))) rfl, zin (tb1 (List.mem_of_getElem? (i := 11) (by decide +kernel))) rfl, zin (tb7 (List.mem_of_getElem? (i := 102) (by decide +kernel))) rfl, ⟨by decide +kernel, by decide +kernel, by decide +kernel⟩, by decide⟩
def tX10_swap : zT := (yX10_swap, cX10_swap, 5, (some .boolean), 2)
theorem vX10_swap : zVok tX10_swap := ⟨zin (tb7 (List.mem_of_getElem? (i := 104) (by decide +kernel))) rfl, zin (tb7 (List.mem_of_getElem? (i := 105) (by decide +kernel))) rfl, zin (tb1 (List.mem_of_getElem? (i := 11) (by decide +kernel))) rfl, zin (tb7 (List.mem_of_getElem? (i := 106) (by decide +kernel))) rfl, ⟨by decide +kernel, by decide +kernel, by decide +kernel⟩, by decide⟩
def tX10_hold : zT := (yX10_hold, cX10_hold, 3, (some .boolean), 2)
theorem vX10_hold : zVok tX10_hold := ⟨zin (tb7 (List.mem_of_getElem? (i := 108) (by decide +kernel))) rfl, zin (tb7 (List.mem_of_getElem? (i := 109) (by decide +kernel))) rfl, zin (tb1 (List.mem_of_getElem? (i := 11) (by decide +kernel))) rfl, zin (tb7 (List.mem_of_getElem? (i := 110) (by decide +kernel))) rfl, ⟨by decide +kernel, by decide +kernel, by decide +kernel⟩, by decide⟩
def tX10_wet : zT := (yX10_wet, cX10_wet, 3, (some .int), 2)
theorem vX10_wet : zVok tX10_wet := ⟨zin (tb7 (List.mem_of_getElem? (i := 112) (by decide +kernel))) rfl, zin (tb7 (List.mem_of_getElem? (i := 113) (by decide +kernel))) rfl, zin (tb1 (List.mem_of_getElem? (i := 11) (by decide +kernel))) rfl, zin (tb7 (List.mem_of_getElem? (i := 114) (by decide +kernel))) rfl, ⟨by decide +kernel, by decide +kernel, by decide +kernel⟩, by decide⟩
def tX10_go : zT := (yX10_go, cX10_go, 3, (some .int), 1)
theorem vX10_go : zVok tX10_go := ⟨zin (tb7 (List.mem_of_getElem? (i := 117) (by decide +kernel))) rfl, zin (tb7 (List.mem_of_getElem? (i := 118) (by decide +kernel))) rfl, zin (tb1 (List.mem_of_getElem? (i := 11) (by decide +kernel))) rfl, zin (tb7 (List.mem_of_getElem? (i := 119) (by decide +kernel))) rfl, ⟨by decide +kernel, by decide +kernel, by decide +kernel⟩, by decide⟩
def tX10_passes : zT := (yX10_passes, cX10_passes, 5, none, 2)
theorem vX10_passes : zVok tX10_passes := ⟨zin (tb7 (List.mem_of_getElem? (i := 122) (by decide +kernel))) rfl, zin (List.mem_append_left _ (List.mem_of_getElem? (i := 92) (by decide +kernel))) rfl, zin (tb1 (List.mem_of_getElem? (i := 11) (by decide +kernel))) rfl, zin (tb7 (List.mem_of_getElem? (i := 123) (by decide +kernel))) rfl, ⟨by decide +kernel, by decide +kernel, by decide +kernel⟩, by decide⟩
def tX10_looks : zT := (yX10_looks, cX10_looks, 3, none, 1)
theorem vX10_looks : zVok tX10_looks := ⟨zin (tb7 (List.mem_of_getElem? (i := 126) (by decide +kernel))) rfl, zin (List.mem_append_left _ (List.mem_of_getElem? (i := 93) (by decide +kernel))) rfl, zin (tb1 (List.mem_of_getElem? (i := 11) (by decide +kernel))) rfl, zin (tb7 (List.mem_of_getElem? (i := 127) (by decide +kernel))) rfl, ⟨by decide +kernel, by decide +kernel, by decide +kernel⟩, by decide⟩
def tX10_entersIf : zT := (yX10_entersIf, cX10_entersIf, 5, none, 2)
theorem vX10_entersIf : zVok tX10_entersIf := ⟨zin (tb7 (List.mem_of_getElem? (i := 130) (by decide +kernel))) rfl, zin (List.mem_append_left _ (List.mem_of_getElem? (i := 94) (by decide +kernel))) rfl, zin (tb1 (List.mem_of_getElem? (i := 11) (by decide +kernel))) rfl, zin (tb7 (List.mem_of_getElem? (i := 131) (by decide +kernel))) rfl, ⟨by decide +kernel, by decide +kernel, by decide +kernel⟩, by decide⟩
def tX10_dares : zT := (yX10_dares, cX10_dares, 5, (some .boolean), 4)
theorem vX10_dares : zVok tX10_dares := ⟨zin (tb7 (List.mem_of_getElem? (i := 134) (by decide +kernel))) rfl, zin (List.mem_append_left _ (List.mem_of_getElem? (i := 95) (by decide +kernel))) rfl, zin (tb1 (List.mem_of_getElem? (i := 11) (by decide +kernel))) rfl, zin (tb7 (List.mem_of_getElem? (i := 135) (by decide +kernel))) rfl, ⟨by decide +kernel, by decide +kernel, by decide +kernel⟩, by decide⟩
def tX10_goesOnInside : zT := (yX10_goesOnInside, cX10_goesOnInside, 7, none, 3)
theorem vX10_goesOnInside : zVok tX10_goesOnInside := ⟨zin (tb7 (List.mem_of_getElem? (i := 138) (by decide +kernel))) rfl, zin (List.mem_append_left _ (List.mem_of_getElem? (i := 96) (by decide +kernel))) rfl, zin (tb1 (List.mem_of_getElem? (i := 11) (by decide +kernel))) rfl, zin (tb7 (List.mem_of_getElem? (i := 139) (by decide +kernel))) rfl, ⟨by decide +kernel, by decide +kernel, by decide +kernel⟩, by decide⟩
def tX10_isHurt : zT := (yX10_isHurt, cX10_isHurt, 4, (some .boolean), 3)
theorem vX10_isHurt : zVok tX10_isHurt := ⟨zin (tb7 (List.mem_of_getElem? (i := 142) (by decide +kernel))) rfl, zin (List.mem_append_left _ (List.mem_of_getElem? (i := 97) (by decide +kernel))) rfl, zin (tb1 (List.mem_of_getElem? (i := 11) (by decide +kernel))) rfl, zin (tb7 (List.mem_of_getElem? (i := 143) (by decide +kernel))) rfl, ⟨by decide +kernel, by decide +kernel, by decide +kernel⟩, by decide⟩
def tX10_within : zT := (yX10_within, cX10_within, 5, (some .int), 4)
theorem vX10_within : zVok tX10_within := ⟨zin (tb7 (List.mem_of_getElem? (i := 146) (by decide +kernel))) rfl, zin (List.mem_append_left _ (List.mem_of_getElem? (i := 98) (by decide +kernel))) rfl, zin (tb1 (List.mem_of_getElem? (i := 11) (by decide +kernel))) rfl, zin (tb7 (List.mem_of_getElem? (i := 147) (by decide +kernel))) rfl, ⟨by decide +kernel, by decide +kernel, by decide +kernel⟩, by decide⟩
def tX10_falls : zT := (yX10_falls, cX10_falls, 4, (some .boolean), 3)
theorem vX10_falls : zVok tX10_falls := ⟨zin (tb7 (List.mem_of_getElem? (i := 152) (by decide +kernel))) rfl, zin (List.mem_append_left _ (List.mem_of_getElem? (i := 99) (by decide +kernel))) rfl, zin (tb1 (List.mem_of_getElem? (i := 11) (by decide +kernel))) rfl, zin (tb7 (List.mem_of_getElem? (i := 153) (by decide +kernel))) rfl, ⟨by decide +kernel, by decide +kernel, by decide +kernel⟩, by decide⟩
def tX10_leaves : zT := (yX10_leaves, cX10_leaves, 4, none, 3)
theorem vX10_leaves : zVok tX10_leaves := ⟨zin (tb7 (List.mem_of_getElem? (i := 158) (by decide +kernel))) rfl, zin (List.mem_append_left _ (List.mem_of_getElem? (i := 100) (by decide +kernel))) rfl, zin (tb1 (List.mem_of_getElem? (i := 11) (by decide +kernel))) rfl, zin (tb7 (List.mem_of_getElem? (i := 159) (by decide +kernel))) rfl, ⟨by decide +kernel, by decide +kernel, by decide +kernel⟩, by decide⟩
def tX10_ahead : zT := (yX10_ahead, cX10_ahead, 3, (some .int), 2)
theorem vX10_ahead : zVok tX10_ahead := ⟨zin (tb7 (List.mem_of_getElem? (i := 162) (by decide +kernel))) rfl, zin (tb7 (List.mem_of_getElem? (i := 163) (by decide +kernel))) rfl, zin (tb1 (List.mem_of_getElem? (i := 11) (by decide +kernel))) rfl, zin (tb7 (List.mem_of_getElem? (i := 164) (by decide +kernel))) rfl, ⟨by decide +kernel, by decide +kernel, by decide +kernel⟩, by decide⟩
def tX10_runs : zT := (yX10_runs, cX10_runs, 2, none, 1)
theorem vX10_runs : zVok tX10_runs := ⟨zin (tb7 (List.mem_of_getElem? (i := 167) (by decide +kernel))) rfl, zin (List.mem_append_left _ (List.mem_of_getElem? (i := 101) (by decide +kernel))) rfl, zin (tb1 (List.mem_of_getElem? (i := 11) (by decide +kernel))) rfl, zin (tb7 (List.mem_of_getElem? (i := 168) (by decide +kernel))) rfl, ⟨by decide +kernel, by decide +kernel, by decide +kernel⟩, by decide⟩
def tX10_goesOn : zT := (yX10_goesOn, cX10_goesOn, 3, none, 1)
theorem vX10_goesOn : zVok tX10_goesOn := ⟨zin (tb7 (List.mem_of_getElem? (i := 171) (by decide +kernel))) rfl, zin (List.mem_append_left _ (List.mem_of_getElem? (i := 102) (by decide +kernel))) rfl, zin (tb1 (List.mem_of_getElem? (i := 11) (by decide +kernel))) rfl, zin (tb7 (List.mem_of_getElem? (i := 172) (by decide +kernel))) rfl, ⟨by decide +kernel, by decide +kernel, by decide +kernel⟩, by decide⟩
def tX10_thingsOf : zT := (yX10_thingsOf, cX10_thingsOf, 5, (some .int), 2)
theorem vX10_thingsOf : zVok tX10_thingsOf := ⟨zin (tb7 (List.mem_of_getElem? (i := 175) (by decide +kernel))) rfl, zin (List.mem_append_left _ (List.mem_of_getElem? (i := 103) (by decide +kernel))) rfl, zin (tb1 (List.mem_of_getElem? (i := 11) (by decide +kernel))) rfl, zin (tb7 (List.mem_of_getElem? (i := 176) (by decide +kernel))) rfl, ⟨by decide +kernel, by decide +kernel, by decide +kernel⟩, by decide⟩
def tX10_menOf : zT := (yX10_menOf, cX10_menOf, 5, (some .int), 2)
theorem vX10_menOf : zVok tX10_menOf := ⟨zin (tb7 (List.mem_of_getElem? (i := 179) (by decide +kernel))) rfl, zin (List.mem_append_left _ (List.mem_of_getElem? (i := 104) (by decide +kernel))) rfl, zin (tb1 (List.mem_of_getElem? (i := 11) (by decide +kernel))) rfl, zin (tb7 (List.mem_of_getElem? (i := 180) (by decide +kernel))) rfl, ⟨by decide +kernel, by decide +kernel, by decide +kernel⟩, by decide⟩
def tX10_goes : zT := (yX10_goes, cX10_goes, 3, (some .int), 1)
theorem vX10_goes : zVok tX10_goes := ⟨zin (tb7 (List.mem_of_getElem? (i := 182) (by decide +kernel))) rfl, zin (tb7 (List.mem_of_getElem? (i := 183) (by decide +kernel))) rfl, zin (tb1 (List.mem_of_getElem? (i := 11) (by decide +kernel))) rfl, zin (tb7 (List.mem_of_getElem? (i := 184) (by decide +kernel))) rfl, ⟨by decide +kernel, by decide +kernel, by decide +kernel⟩, by decide⟩
def tX10_out : zT := (yX10_out, cX10_out, 3, (some .int), 1)
theorem vX10_out : zVok tX10_out := ⟨zin (tb7 (List.mem_of_getElem? (i := 186) (by decide +kernel))) rfl, zin (tb7 (List.mem_of_getElem? (i := 187) (by decide +kernel))) rfl, zin (tb1 (List.mem_of_getElem? (i := 11) (by decide +kernel))) rfl, zin (tb7 (List.mem_of_getElem? (i := 188) (by decide +kernel))) rfl, ⟨by decide +kernel, by decide +kernel, by decide +kernel⟩, by decide⟩
def tX10_premium : zT := (yX10_premium, cX10_premium, 2, (some .int), 1)
theorem vX10_premium : zVok tX10_premium := ⟨zin (tb7 (List.mem_of_getElem? (i := 190) (by decide +kernel))) rfl, zin (tb7 (List.mem_of_getElem? (i := 191) (by decide +kernel))) rfl, zin (tb1 (List.mem_of_getElem? (i := 11) (by decide +kernel))) rfl, zin (tb7 (List.mem_of_getElem? (i := 192) (by decide +kernel))) rfl, ⟨by decide +kernel, by decide +kernel, by decide +kernel⟩, by decide⟩
def tX10_premiumOf : zT := (yX10_premiumOf, cX10_premiumOf, 4, (some .int), 1)
theorem vX10_premiumOf : zVok tX10_premiumOf := ⟨zin (tb7 (List.mem_of_getElem? (i := 195) (by decide +kernel))) rfl, zin (List.mem_append_left _ (List.mem_of_getElem? (i := 105) (by decide +kernel))) rfl, zin (tb1 (List.mem_of_getElem? (i := 11) (by decide +kernel))) rfl, zin (tb7 (List.mem_of_getElem? (i := 196) (by decide +kernel))) rfl, ⟨by decide +kernel, by decide +kernel, by decide +kernel⟩, by decide⟩
def tX10_cover : zT := (yX10_cover, cX10_cover, 6, (some .int), 1)
theorem vX10_cover : zVok tX10_cover := ⟨zin (tb7 (List.mem_of_getElem? (i := 198) (by decide +kernel))) rfl, zin (tb7 (List.mem_of_getElem? (i := 199) (by decide +kernel))) rfl, zin (tb1 (List.mem_of_getElem? (i := 11) (by decide +kernel))) rfl, zin (tb7 (List.mem_of_getElem? (i := 200) (by decide +kernel))) rfl, ⟨by decide +kernel, by decide +kernel, by decide +kernel⟩, by decide⟩
def tX10_match : zT := (yX10_match, cX10_match, 2, (some .int), 1)
theorem vX10_match : zVok tX10_match := ⟨zin (tb7 (List.mem_of_getElem? (i := 202) (by decide +kernel))) rfl, zin (tb7 (List.mem_of_getElem? (i := 203) (by decide +kernel))) rfl, zin (tb1 (List.mem_of_getElem? (i := 11) (by decide +kernel))) rfl, zin (tb7 (List.mem_of_getElem? (i := 204) (by decide +kernel))) rfl, ⟨by decide +kernel, by decide +kernel, by decide +kernel⟩, by decide⟩
def tX10_matches : zT := (yX10_matches, cX10_matches, 5, none, 3)
theorem vX10_matches : zVok tX10_matches := ⟨zin (tb7 (List.mem_of_getElem? (i := 207) (by decide +kernel))) rfl, zin (List.mem_append_left _ (List.mem_of_getElem? (i := 106) (by decide +kernel))) rfl, zin (tb1 (List.mem_of_getElem? (i := 11) (by decide +kernel))) rfl, zin (tb7 (List.mem_of_getElem? (i := 208) (by decide +kernel))) rfl, ⟨by decide +kernel, by decide +kernel, by decide +kernel⟩, by decide⟩
def tX10_order : zT := (yX10_order, cX10_order, 5, (some .int), 1)
theorem vX10_order : zVok tX10_order := ⟨zin (tb7 (List.mem_of_getElem? (i := 210) (by decide +kernel))) rfl, zin (tb7 (List.mem_of_getElem? (i := 211) (by decide +kernel))) rfl, zin (tb1 (List.mem_of_getElem? (i := 11) (by decide +kernel))) rfl, zin (tb7 (List.mem_of_getElem? (i := 212) (by decide +kernel))) rfl, ⟨by decide +kernel, by decide +kernel, by decide +kernel⟩, by decide⟩
def tX10_rows : zT := (yX10_rows, cX10_rows, 5, none, 2)
theorem vX10_rows : zVok tX10_rows := ⟨zin (tb7 (List.mem_of_getElem? (i := 215) (by decide +kernel))) rfl, zin (List.mem_append_left _ (List.mem_of_getElem? (i := 107) (by decide +kernel))) rfl, zin (tb1 (List.mem_of_getElem? (i := 11) (by decide +kernel))) rfl, zin (tb7 (List.mem_of_getElem? (i := 216) (by decide +kernel))) rfl, ⟨by decide +kernel, by decide +kernel, by decide +kernel⟩, by decide⟩
def tX10_savedWorth : zT := (yX10_savedWorth, cX10_savedWorth, 4, (some .int), 1)
theorem vX10_savedWorth : zVok tX10_savedWorth := ⟨zin (tb7 (List.mem_of_getElem? (i := 219) (by decide +kernel))) rfl, zin (List.mem_append_left _ (List.mem_of_getElem? (i := 108) (by decide +kernel))) rfl, zin (tb1 (List.mem_of_getElem? (i := 11) (by decide +kernel))) rfl, zin (tb7 (List.mem_of_getElem? (i := 220) (by decide +kernel))) rfl, ⟨by decide +kernel, by decide +kernel, by decide +kernel⟩, by decide⟩
def tX10_rests : zT := (yX10_rests, cX10_rests, 3, (some .int), 2)
theorem vX10_rests : zVok tX10_rests := ⟨zin (tb7 (List.mem_of_getElem? (i := 222) (by decide +kernel))) rfl, zin (tb7 (List.mem_of_getElem? (i := 223) (by decide +kernel))) rfl, zin (tb1 (List.mem_of_getElem? (i := 11) (by decide +kernel))) rfl, zin (tb7 (List.mem_of_getElem? (i := 224) (by decide +kernel))) rfl, ⟨by decide +kernel, by decide +kernel, by decide +kernel⟩, by decide⟩
def tX10_areTwo : zT := (yX10_areTwo, cX10_areTwo, 3, (some .boolean), 2)
theorem vX10_areTwo : zVok tX10_areTwo := ⟨zin (tb7 (List.mem_of_getElem? (i := 227) (by decide +kernel))) rfl, zin (List.mem_append_left _ (List.mem_of_getElem? (i := 109) (by decide +kernel))) rfl, zin (tb1 (List.mem_of_getElem? (i := 11) (by decide +kernel))) rfl, zin (tb7 (List.mem_of_getElem? (i := 228) (by decide +kernel))) rfl, ⟨by decide +kernel, by decide +kernel, by decide +kernel⟩, by decide⟩
def tX10_restOf : zT := (yX10_restOf, cX10_restOf, 6, (some .int), 3)
theorem vX10_restOf : zVok tX10_restOf := ⟨zin (tb7 (List.mem_of_getElem? (i := 231) (by decide +kernel))) rfl, zin (List.mem_append_left _ (List.mem_of_getElem? (i := 110) (by decide +kernel))) rfl, zin (tb1 (List.mem_of_getElem? (i := 11) (by decide +kernel))) rfl, zin (tb7 (List.mem_of_getElem? (i := 232) (by decide +kernel))) rfl, ⟨by decide +kernel, by decide +kernel, by decide +kernel⟩, by decide⟩
def tX10_isRest : zT := (yX10_isRest, cX10_isRest, 6, (some .boolean), 3)
theorem vX10_isRest : zVok tX10_isRest := ⟨zin (tb7 (List.mem_of_getElem? (i := 235) (by decide +kernel))) rfl, zin (List.mem_append_left _ (List.mem_of_getElem? (i := 111) (by decide +kernel))) rfl, zin (tb1 (List.mem_of_getElem? (i := 11) (by decide +kernel))) rfl, zin (tb7 (List.mem_of_getElem? (i := 236) (by decide +kernel))) rfl, ⟨by decide +kernel, by decide +kernel, by decide +kernel⟩, by decide⟩
def tX10_hasOf : zT := (yX10_hasOf, cX10_hasOf, 4, (some .int), 3)
theorem vX10_hasOf : zVok tX10_hasOf := ⟨zin (tb7 (List.mem_of_getElem? (i := 239) (by decide +kernel))) rfl, zin (List.mem_append_left _ (List.mem_of_getElem? (i := 112) (by decide +kernel))) rfl, zin (tb1 (List.mem_of_getElem? (i := 11) (by decide +kernel))) rfl, zin (tb8 (List.mem_of_getElem? (i := 0) (by decide +kernel))) rfl, ⟨by decide +kernel, by decide +kernel, by decide +kernel⟩, by decide⟩
def tX10_rest : zT := (yX10_rest, cX10_rest, 4, (some .int), 3)
theorem vX10_rest : zVok tX10_rest := ⟨zin (tb8 (List.mem_of_getElem? (i := 2) (by decide +kernel))) rfl, zin (tb8 (List.mem_of_getElem? (i := 3) (by decide +kernel))) rfl, zin (tb1 (List.mem_of_getElem? (i := 11) (by decide +kernel))) rfl, zin (tb8 (List.mem_of_getElem? (i := 4) (by decide +kernel))) rfl, ⟨by decide +kernel, by decide +kernel, by decide +kernel⟩, by decide⟩
def tX10_comesBack : zT := (yX10_comesBack, cX10_comesBack, 9, (some .long), 2)
theorem vX10_comesBack : zVok tX10_comesBack := ⟨zin (tb8 (List.mem_of_getElem? (i := 6) (by decide +kernel))) rfl, zin (tb8 (List.mem_of_getElem? (i := 7) (by decide +kernel))) rfl, zin (tb1 (List.mem_of_getElem? (i := 11) (by decide +kernel))) rfl, zin (tb8 (List.mem_of_getElem? (i := 8) (by decide +kernel))) rfl, ⟨by decide +kernel, by decide +kernel, by decide +kernel⟩, by decide⟩
def tX10_common : zT := (yX10_common, cX10_common, 10, (some .long), 2)
theorem vX10_common : zSok tX10_common := ⟨zin (tb8 (List.mem_of_getElem? (i := 12) (by decide +kernel))) rfl, zin (tb1 (List.mem_of_getElem? (i := 11) (by decide +kernel))) rfl, zin (tb8 (List.mem_of_getElem? (i := 13) (by decide +kernel))) rfl, ⟨by decide +kernel, by decide +kernel, by decide +kernel⟩, by decide⟩
def tX10_widow : zT := (yX10_widow, cX10_widow, 6, (some .int), 2)
theorem vX10_widow : zVok tX10_widow := ⟨zin (tb8 (List.mem_of_getElem? (i := 15) (by decide +kernel))) rfl, zin (tb8 (List.mem_of_getElem? (i := 16) (by decide +kernel))) rfl, zin (tb1 (List.mem_of_getElem? (i := 11) (by decide +kernel))) rfl, zin (tb8 (List.mem_of_getElem? (i := 17) (by decide +kernel))) rfl, ⟨by decide +kernel, by decide +kernel, by decide +kernel⟩, by decide⟩
def tX10_next : zT := (yX10_next, cX10_next, 5, (some .int), 1)
theorem vX10_next : zVok tX10_next := ⟨zin (tb8 (List.mem_of_getElem? (i := 19) (by decide +kernel))) rfl, zin (tb8 (List.mem_of_getElem? (i := 20) (by decide +kernel))) rfl, zin (tb1 (List.mem_of_getElem? (i := 11) (by decide +kernel))) rfl, zin (tb8 (List.mem_of_getElem? (i := 21) (by decide +kernel))) rfl, ⟨by decide +kernel, by decide +kernel, by decide +kernel⟩, by decide⟩
def tX10_see : zT := (yX10_see, cX10_see, 4, (some .int), 3)
theorem vX10_see : zVok tX10_see := ⟨zin (tb8 (List.mem_of_getElem? (i := 23) (by decide +kernel))) rfl, zin (tb8 (List.mem_of_getElem? (i := 24) (by decide +kernel))) rfl, zin (tb1 (List.mem_of_getElem? (i := 11) (by decide +kernel))) rfl, zin (tb8 (List.mem_of_getElem? (i := 25) (by decide +kernel))) rfl, ⟨by decide +kernel, by decide +kernel, by decide +kernel⟩, by decide⟩
def tX10_strike : zT := (yX10_strike, cX10_strike, 2, (some .int), 1)
theorem vX10_strike : zVok tX10_strike := ⟨zin (tb8 (List.mem_of_getElem? (i := 27) (by decide +kernel))) rfl, zin (tb8 (List.mem_of_getElem? (i := 28) (by decide +kernel))) rfl, zin (tb1 (List.mem_of_getElem? (i := 11) (by decide +kernel))) rfl, zin (tb8 (List.mem_of_getElem? (i := 29) (by decide +kernel))) rfl, ⟨by decide +kernel, by decide +kernel, by decide +kernel⟩, by decide⟩
def tX10_known : zT := (yX10_known, cX10_known, 2, (some .boolean), 1)
theorem vX10_known : zVok tX10_known := ⟨zin (tb8 (List.mem_of_getElem? (i := 31) (by decide +kernel))) rfl, zin (tb8 (List.mem_of_getElem? (i := 32) (by decide +kernel))) rfl, zin (tb1 (List.mem_of_getElem? (i := 11) (by decide +kernel))) rfl, zin (tb8 (List.mem_of_getElem? (i := 33) (by decide +kernel))) rfl, ⟨by decide +kernel, by decide +kernel, by decide +kernel⟩, by decide⟩
def tX10_rues : zT := (yX10_rues, cX10_rues, 5, (some .int), 1)
theorem vX10_rues : zVok tX10_rues := ⟨zin (tb8 (List.mem_of_getElem? (i := 35) (by decide +kernel))) rfl, zin (tb8 (List.mem_of_getElem? (i := 36) (by decide +kernel))) rfl, zin (tb1 (List.mem_of_getElem? (i := 11) (by decide +kernel))) rfl, zin (tb8 (List.mem_of_getElem? (i := 37) (by decide +kernel))) rfl, ⟨by decide +kernel, by decide +kernel, by decide +kernel⟩, by decide⟩
def tX10_knownMany : zT := (yX10_knownMany, cX10_knownMany, 1, (some .int), 0)
theorem vX10_knownMany : zVok tX10_knownMany := ⟨zin (tb8 (List.mem_of_getElem? (i := 40) (by decide +kernel))) rfl, zin (List.mem_append_left _ (List.mem_of_getElem? (i := 113) (by decide +kernel))) rfl, zin (tb1 (List.mem_of_getElem? (i := 11) (by decide +kernel))) rfl, zin (tb8 (List.mem_of_getElem? (i := 41) (by decide +kernel))) rfl, ⟨by decide +kernel, by decide +kernel, by decide +kernel⟩, by decide⟩
def tX10_fitsRue : zT := (yX10_fitsRue, cX10_fitsRue, 5, (some .boolean), 3)
theorem vX10_fitsRue : zVok tX10_fitsRue := ⟨zin (tb8 (List.mem_of_getElem? (i := 44) (by decide +kernel))) rfl, zin (List.mem_append_left _ (List.mem_of_getElem? (i := 114) (by decide +kernel))) rfl, zin (tb1 (List.mem_of_getElem? (i := 11) (by decide +kernel))) rfl, zin (tb8 (List.mem_of_getElem? (i := 45) (by decide +kernel))) rfl, ⟨by decide +kernel, by decide +kernel, by decide +kernel⟩, by decide⟩
def tX10_isSo : zT := (yX10_isSo, cX10_isSo, 3, (some .boolean), 1)
theorem vX10_isSo : zVok tX10_isSo := ⟨zin (tb8 (List.mem_of_getElem? (i := 48) (by decide +kernel))) rfl, zin (List.mem_append_left _ (List.mem_of_getElem? (i := 115) (by decide +kernel))) rfl, zin (tb1 (List.mem_of_getElem? (i := 11) (by decide +kernel))) rfl, zin (tb8 (List.mem_of_getElem? (i := 49) (by decide +kernel))) rfl, ⟨by decide +kernel, by decide +kernel, by decide +kernel⟩, by decide⟩
def tX10_chance : zT := (yX10_chance, cX10_chance, 8, (some .int), 3)
theorem vX10_chance : zVok tX10_chance := ⟨zin (tb8 (List.mem_of_getElem? (i := 51) (by decide +kernel))) rfl, zin (tb8 (List.mem_of_getElem? (i := 52) (by decide +kernel))) rfl, zin (tb1 (List.mem_of_getElem? (i := 11) (by decide +kernel))) rfl, zin (tb8 (List.mem_of_getElem? (i := 53) (by decide +kernel))) rfl, ⟨by decide +kernel, by decide +kernel, by decide +kernel⟩, by decide⟩
def tX10_tried : zT := (yX10_tried, cX10_tried, 5, (some .int), 3)
theorem vX10_tried : zVok tX10_tried := ⟨zin (tb8 (List.mem_of_getElem? (i := 55) (by decide +kernel))) rfl, zin (tb8 (List.mem_of_getElem? (i := 56) (by decide +kernel))) rfl, zin (tb1 (List.mem_of_getElem? (i := 11) (by decide +kernel))) rfl, zin (tb8 (List.mem_of_getElem? (i := 57) (by decide +kernel))) rfl, ⟨by decide +kernel, by decide +kernel, by decide +kernel⟩, by decide⟩
def tX10_undo : zT := (yX10_undo, cX10_undo, 1, (some .int), 0)
theorem vX10_undo : zVok tX10_undo := ⟨zin (tb8 (List.mem_of_getElem? (i := 59) (by decide +kernel))) rfl, zin (tb8 (List.mem_of_getElem? (i := 60) (by decide +kernel))) rfl, zin (tb1 (List.mem_of_getElem? (i := 11) (by decide +kernel))) rfl, zin (tb8 (List.mem_of_getElem? (i := 61) (by decide +kernel))) rfl, ⟨by decide +kernel, by decide +kernel, by decide +kernel⟩, by decide⟩
def tX10_keep : zT := (yX10_keep, cX10_keep, 1, (some .int), 0)
theorem vX10_keep : zVok tX10_keep := ⟨zin (tb8 (List.mem_of_getElem? (i := 63) (by decide +kernel))) rfl, zin (tb8 (List.mem_of_getElem? (i := 64) (by decide +kernel))) rfl, zin (tb1 (List.mem_of_getElem? (i := 11) (by decide +kernel))) rfl, zin (tb8 (List.mem_of_getElem? (i := 65) (by decide +kernel))) rfl, ⟨by decide +kernel, by decide +kernel, by decide +kernel⟩, by decide⟩
def tX10_back : zT := (yX10_back, cX10_back, 1, (some .int), 0)
theorem vX10_back : zVok tX10_back := ⟨zin (tb8 (List.mem_of_getElem? (i := 67) (by decide +kernel))) rfl, zin (tb8 (List.mem_of_getElem? (i := 68) (by decide +kernel))) rfl, zin (tb1 (List.mem_of_getElem? (i := 11) (by decide +kernel))) rfl, zin (tb8 (List.mem_of_getElem? (i := 69) (by decide +kernel))) rfl, ⟨by decide +kernel, by decide +kernel, by decide +kernel⟩, by decide⟩
def tX10_count : zT := (yX10_count, cX10_count, 2, (some .int), 1)
theorem vX10_count : zVok tX10_count := ⟨zin (tb8 (List.mem_of_getElem? (i := 71) (by decide +kernel))) rfl, zin (tb8 (List.mem_of_getElem? (i := 72) (by decide +kernel))) rfl, zin (tb1 (List.mem_of_getElem? (i := 11) (by decide +kernel))) rfl, zin (tb8 (List.mem_of_getElem? (i := 73) (by decide +kernel))) rfl, ⟨by decide +kernel, by decide +kernel, by decide +kernel⟩, by decide⟩
