def yS_length : MethodName := ⟨"java/lang/String", "length", "()I"⟩
def tS_length : zT := (yS_length, prog_20_method_54_code, 1, (some .int), 0)
theorem vS_length : zVok tS_length := ⟨zin (tb6 (List.mem_of_getElem? (i := 122) (by decide +kernel))) rfl, zin (tb6 (List.mem_of_getElem? (i := 123) (by decide +kernel))) rfl, zin (tb1 (List.mem_of_getElem? (i := 14) (by decide +kernel))) rfl, zin (tb6 (List.mem_of_getElem? (i := 124) (by decide +kernel))) rfl, ⟨by decide +kernel, by decide +kernel, by decide +kernel⟩, by decide⟩
theorem plS_length : plainName yS_length.cls = true := by decide +kernel
def yS_coder : MethodName := ⟨"java/lang/String", "coder", "()B"⟩
def tS_coder : zT := (yS_coder, prog_20_method_152_code, 1, (some .byte), 0)
theorem vS_coder : zVok tS_coder := ⟨zin (tb6 (List.mem_of_getElem? (i := 126) (by decide +kernel))) rfl, zin (tb6 (List.mem_of_getElem? (i := 127) (by decide +kernel))) rfl, zin (tb1 (List.mem_of_getElem? (i := 14) (by decide +kernel))) rfl, zin (tb6 (List.mem_of_getElem? (i := 128) (by decide +kernel))) rfl, ⟨by decide +kernel, by decide +kernel, by decide +kernel⟩, by decide⟩
theorem plS_coder : plainName yS_coder.cls = true := by decide +kernel
def yS_charAt : MethodName := ⟨"java/lang/String", "charAt", "(I)C"⟩
def tS_charAt : zT := (yS_charAt, prog_20_method_56_code, 2, (some .char), 1)
theorem vS_charAt : zVok tS_charAt := ⟨zin (tb6 (List.mem_of_getElem? (i := 132) (by decide +kernel))) rfl, zin (tb6 (List.mem_of_getElem? (i := 133) (by decide +kernel))) rfl, zin (tb1 (List.mem_of_getElem? (i := 14) (by decide +kernel))) rfl, zin (tb6 (List.mem_of_getElem? (i := 134) (by decide +kernel))) rfl, ⟨by decide +kernel, by decide +kernel, by decide +kernel⟩, by decide⟩
theorem plS_charAt : plainName yS_charAt.cls = true := by decide +kernel
def yS_isL : MethodName := ⟨"java/lang/String", "isLatin1", "()Z"⟩
def tS_isL : zT := (yS_isL, prog_20_method_154_code, 1, (some .boolean), 0)
theorem vS_isL : zVok tS_isL := ⟨zin (tb6 (List.mem_of_getElem? (i := 136) (by decide +kernel))) rfl, zin (tb6 (List.mem_of_getElem? (i := 137) (by decide +kernel))) rfl, zin (tb1 (List.mem_of_getElem? (i := 14) (by decide +kernel))) rfl, zin (tb6 (List.mem_of_getElem? (i := 138) (by decide +kernel))) rfl, ⟨by decide +kernel, by decide +kernel, by decide +kernel⟩, by decide⟩
theorem plS_isL : plainName yS_isL.cls = true := by decide +kernel
def yS_lch : MethodName := ⟨"java/lang/StringLatin1", "charAt", "([BI)C"⟩
def tS_lch : zT := (yS_lch, prog_21_method_2_code, 2, (some .char), 2)
theorem vS_lch : zSok tS_lch := ⟨zin (tb6 (List.mem_of_getElem? (i := 140) (by decide +kernel))) rfl, zin (tb1 (List.mem_of_getElem? (i := 15) (by decide +kernel))) rfl, zin (tb6 (List.mem_of_getElem? (i := 141) (by decide +kernel))) rfl, ⟨by decide +kernel, by decide +kernel, by decide +kernel⟩, by decide⟩
theorem plS_lch : plainName yS_lch.cls = true := by decide +kernel
def yS_chk : MethodName := ⟨"java/lang/String", "checkIndex", "(II)V"⟩
def tS_chk : zT := (yS_chk, prog_20_method_155_code, 2, none, 2)
theorem vS_chk : zSok tS_chk := ⟨zin (tb6 (List.mem_of_getElem? (i := 143) (by decide +kernel))) rfl, zin (tb1 (List.mem_of_getElem? (i := 14) (by decide +kernel))) rfl, zin (tb6 (List.mem_of_getElem? (i := 144) (by decide +kernel))) rfl, ⟨by decide +kernel, by decide +kernel, by decide +kernel⟩, by decide⟩
theorem plS_chk : plainName yS_chk.cls = true := by decide +kernel
def yS_pre : MethodName := ⟨"jdk/internal/util/Preconditions", "checkIndex", "(IILjava/util/function/BiFunction;)I"⟩
def tS_pre : zT := (yS_pre, prog_28_method_11_code, 3, (some .int), 3)
theorem vS_pre : zSok tS_pre := ⟨zin (tb6 (List.mem_of_getElem? (i := 148) (by decide +kernel))) rfl, zin (tb1 (List.mem_of_getElem? (i := 16) (by decide +kernel))) rfl, zin (tb6 (List.mem_of_getElem? (i := 149) (by decide +kernel))) rfl, ⟨by decide +kernel, by decide +kernel, by decide +kernel⟩, by decide⟩
theorem plS_pre : plainName yS_pre.cls = true := by decide +kernel
theorem dS_length_0 : decode prog_20_method_54_code 0 = .ok (.aload_n 0, 1) := by decide +kernel
theorem dS_length_1 : decode prog_20_method_54_code 1 = .ok (.getfield 9, 3) := by decide +kernel
theorem dS_length_4 : decode prog_20_method_54_code 4 = .ok (.arraylength, 1) := by decide +kernel
theorem dS_length_5 : decode prog_20_method_54_code 5 = .ok (.aload_n 0, 1) := by decide +kernel
theorem dS_length_6 : decode prog_20_method_54_code 6 = .ok (.invokevirtual 335, 3) := by decide +kernel
theorem dS_length_9 : decode prog_20_method_54_code 9 = .ok (.ishr, 1) := by decide +kernel
theorem dS_length_10 : decode prog_20_method_54_code 10 = .ok (.ireturn, 1) := by decide +kernel
theorem dS_coder_0 : decode prog_20_method_152_code 0 = .ok (.getstatic 38, 3) := by decide +kernel
theorem dS_coder_3 : decode prog_20_method_152_code 3 = .ok (.ifCond .eq 10, 3) := by decide +kernel
theorem dS_coder_6 : decode prog_20_method_152_code 6 = .ok (.aload_n 0, 1) := by decide +kernel
theorem dS_coder_7 : decode prog_20_method_152_code 7 = .ok (.getfield 15, 3) := by decide +kernel
theorem dS_coder_10 : decode prog_20_method_152_code 10 = .ok (.goto 4, 3) := by decide +kernel
theorem dS_coder_14 : decode prog_20_method_152_code 14 = .ok (.ireturn, 1) := by decide +kernel
theorem dS_charAt_0 : decode prog_20_method_56_code 0 = .ok (.aload_n 0, 1) := by decide +kernel
theorem dS_charAt_1 : decode prog_20_method_56_code 1 = .ok (.invokevirtual 492, 3) := by decide +kernel
theorem dS_charAt_4 : decode prog_20_method_56_code 4 = .ok (.ifCond .eq 12, 3) := by decide +kernel
theorem dS_charAt_7 : decode prog_20_method_56_code 7 = .ok (.aload_n 0, 1) := by decide +kernel
theorem dS_charAt_8 : decode prog_20_method_56_code 8 = .ok (.getfield 9, 3) := by decide +kernel
theorem dS_charAt_11 : decode prog_20_method_56_code 11 = .ok (.iload_n 1, 1) := by decide +kernel
theorem dS_charAt_12 : decode prog_20_method_56_code 12 = .ok (.invokestatic 495, 3) := by decide +kernel
theorem dS_charAt_15 : decode prog_20_method_56_code 15 = .ok (.ireturn, 1) := by decide +kernel
theorem dS_isL_0 : decode prog_20_method_154_code 0 = .ok (.getstatic 38, 3) := by decide +kernel
theorem dS_isL_3 : decode prog_20_method_154_code 3 = .ok (.ifCond .eq 14, 3) := by decide +kernel
theorem dS_isL_6 : decode prog_20_method_154_code 6 = .ok (.aload_n 0, 1) := by decide +kernel
theorem dS_isL_7 : decode prog_20_method_154_code 7 = .ok (.getfield 15, 3) := by decide +kernel
theorem dS_isL_10 : decode prog_20_method_154_code 10 = .ok (.ifCond .ne 7, 3) := by decide +kernel
theorem dS_isL_13 : decode prog_20_method_154_code 13 = .ok (.iconst 1, 1) := by decide +kernel
theorem dS_isL_14 : decode prog_20_method_154_code 14 = .ok (.goto 4, 3) := by decide +kernel
theorem dS_isL_18 : decode prog_20_method_154_code 18 = .ok (.ireturn, 1) := by decide +kernel
theorem dS_lch_0 : decode prog_21_method_2_code 0 = .ok (.iload_n 1, 1) := by decide +kernel
theorem dS_lch_1 : decode prog_21_method_2_code 1 = .ok (.aload_n 0, 1) := by decide +kernel
theorem dS_lch_2 : decode prog_21_method_2_code 2 = .ok (.arraylength, 1) := by decide +kernel
theorem dS_lch_3 : decode prog_21_method_2_code 3 = .ok (.invokestatic 9, 3) := by decide +kernel
theorem dS_lch_6 : decode prog_21_method_2_code 6 = .ok (.aload_n 0, 1) := by decide +kernel
theorem dS_lch_7 : decode prog_21_method_2_code 7 = .ok (.iload_n 1, 1) := by decide +kernel
theorem dS_lch_8 : decode prog_21_method_2_code 8 = .ok (.baload, 1) := by decide +kernel
theorem dS_lch_9 : decode prog_21_method_2_code 9 = .ok (.sipush 255, 3) := by decide +kernel
theorem dS_lch_12 : decode prog_21_method_2_code 12 = .ok (.iand, 1) := by decide +kernel
theorem dS_lch_13 : decode prog_21_method_2_code 13 = .ok (.i2c, 1) := by decide +kernel
theorem dS_lch_14 : decode prog_21_method_2_code 14 = .ok (.ireturn, 1) := by decide +kernel
theorem dS_chk_0 : decode prog_20_method_155_code 0 = .ok (.iload_n 0, 1) := by decide +kernel
theorem dS_chk_1 : decode prog_20_method_155_code 1 = .ok (.iload_n 1, 1) := by decide +kernel
theorem dS_chk_2 : decode prog_20_method_155_code 2 = .ok (.getstatic 1053, 3) := by decide +kernel
theorem dS_chk_5 : decode prog_20_method_155_code 5 = .ok (.invokestatic 1059, 3) := by decide +kernel
theorem dS_chk_8 : decode prog_20_method_155_code 8 = .ok (.pop, 1) := by decide +kernel
theorem dS_chk_9 : decode prog_20_method_155_code 9 = .ok (.return_, 1) := by decide +kernel
theorem dS_pre_0 : decode prog_28_method_11_code 0 = .ok (.iload_n 0, 1) := by decide +kernel
theorem dS_pre_1 : decode prog_28_method_11_code 1 = .ok (.ifCond .lt 8, 3) := by decide +kernel
theorem dS_pre_4 : decode prog_28_method_11_code 4 = .ok (.iload_n 0, 1) := by decide +kernel
theorem dS_pre_5 : decode prog_28_method_11_code 5 = .ok (.iload_n 1, 1) := by decide +kernel
theorem dS_pre_6 : decode prog_28_method_11_code 6 = .ok (.if_icmp .lt 10, 3) := by decide +kernel
theorem dS_pre_16 : decode prog_28_method_11_code 16 = .ok (.iload_n 0, 1) := by decide +kernel
theorem dS_pre_17 : decode prog_28_method_11_code 17 = .ok (.ireturn, 1) := by decide +kernel
theorem lS_335 : Cond.methodLink "java/lang/String" 335 yS_coder ∈ zWS := zin (tb6 (List.mem_of_getElem? (i := 125) (by decide +kernel))) rfl
theorem lS_492 : Cond.methodLink "java/lang/String" 492 yS_isL ∈ zWS := zin (tb6 (List.mem_of_getElem? (i := 135) (by decide +kernel))) rfl
theorem lS_495 : Cond.methodLink "java/lang/String" 495 yS_lch ∈ zWS := zin (tb6 (List.mem_of_getElem? (i := 139) (by decide +kernel))) rfl
theorem lS_9 : Cond.methodLink "java/lang/StringLatin1" 9 yS_chk ∈ zWS := zin (tb6 (List.mem_of_getElem? (i := 142) (by decide +kernel))) rfl
theorem lS_1059 : Cond.methodLink "java/lang/String" 1059 yS_pre ∈ zWS := zin (tb6 (List.mem_of_getElem? (i := 147) (by decide +kernel))) rfl
theorem lX10_199 : Cond.methodLink RX10 199 yS_length ∈ zWS := zin (tb6 (List.mem_of_getElem? (i := 121) (by decide +kernel))) rfl
theorem lX10_204 : Cond.methodLink RX10 204 yS_charAt ∈ zWS := zin (tb6 (List.mem_of_getElem? (i := 131) (by decide +kernel))) rfl
theorem fS_9 : Cond.fieldLink "java/lang/String" 9 "java/lang/String" "value" "[B" ∈ zWS := zin (tb8 (List.mem_of_getElem? (i := 89) (by decide +kernel))) rfl
theorem fS_15 : Cond.fieldLink "java/lang/String" 15 "java/lang/String" "coder" "B" ∈ zWS := zin (tb8 (List.mem_of_getElem? (i := 90) (by decide +kernel))) rfl
theorem fS_38 : Cond.fieldLink "java/lang/String" 38 "java/lang/String" "COMPACT_STRINGS" "Z" ∈ zWS := zin (tb6 (List.mem_of_getElem? (i := 129) (by decide +kernel))) rfl
theorem fS_1053 : Cond.fieldLink "java/lang/String" 1053 "jdk/internal/util/Preconditions" "SIOOBE_FORMATTER" "Ljava/util/function/BiFunction;" ∈ zWS := zin (tb6 (List.mem_of_getElem? (i := 145) (by decide +kernel))) rfl
def zch (j : Nat) : Int32 := ((zTb.getD j 0 &&& 255).toUInt32 % 65536).toInt32
theorem zch_ok : ∀ j, j < 108 → zch j = zTb.getD j 0 ∧ narrow .char (.int (zch j)) = .int (zch j) := by decide +kernel
section ZS
variable {G : zG} {X : zX} {Q : Option Value → zM → Prop} {cc : ByteArray} {nL dd pc : Nat} {own : String} {rt : Option FieldType} {lv : List (Option Value)} {st : List Value} {M : zM}
theorem z_nreturn (hX : zC G X cc nL own rt dd) {ty : FieldType} (hrt : rt = some ty) {x : Int32} (d : decode cc pc = .ok (.ireturn, 1)) (hx : narrow ty (.int x) = .int x) (hq : Q (some (.int x)) M) : Z G X Q pc lv [.int x] M := by
  subst hrt
  obtain ⟨p, l, e, R, s, m, args, below, meth, c⟩ := X
  intro H locs ls hl hR hS
  exact W.zret hX.1 hX.2.1 hX.2.2.2.2.2.2.2.2.1 hx (fun t ht _ => ⟨some (.int x), M, rfl, hq, by rw [ht]; exact hR, hS.F ht⟩) hS.2.2 d hX.2.2.2.2.2.2.2.1
theorem z_ldcS (hX : zC G X cc nL "ColdFeetModel" rt dd) (d : decode cc pc = .ok (.ldc 197, 2)) (n : Nat) (hn : pc + 2 = n) (kk : Z G X Q n lv (.ref 145 :: st) M) : Z G X Q pc lv st M := by
  obtain ⟨p, l, e, R, s, m, args, below, meth, c⟩ := X
  subst hn
  intro H locs ls hl hR hS
  exact va_ldcS hX.1 hX.2.1 hX.2.2.2.1 hX.2.2.2.2.2.2.2.2.2.2.1.2.2 d (kk H locs ls hl hR hS)
theorem z_getSv (hX : zC G X cc nL "java/lang/String" rt dd) (d : decode cc pc = .ok (.getfield 9, 3)) (n : Nat) (hn : pc + 3 = n) (kk : Z G X Q n lv (.ref 146 :: st) M) : Z G X Q pc lv (.ref 145 :: st) M := by
  obtain ⟨p, l, e, R, s, m, args, below, meth, c⟩ := X
  subst hn
  intro H locs ls hl hR hS
  exact vk_getf hX.1 hX.2.1 (hX.2.2.2.2.2.2.2.2.2.2.2.2.2.2.1.1 0 (by decide)).2.2.1 hS hX.2.2.2.1 (hX.2.2.2.2.1 _ fS_9) (fun _ h => h) d (kk H locs ls hl hR hS)
theorem z_getSc (hX : zC G X cc nL "java/lang/String" rt dd) (d : decode cc pc = .ok (.getfield 15, 3)) (n : Nat) (hn : pc + 3 = n) (kk : Z G X Q n lv (.int 0 :: st) M) : Z G X Q pc lv (.ref 145 :: st) M := by
  obtain ⟨p, l, e, R, s, m, args, below, meth, c⟩ := X
  subst hn
  intro H locs ls hl hR hS
  exact vk_getf hX.1 hX.2.1 (hX.2.2.2.2.2.2.2.2.2.2.2.2.2.2.1.1 0 (by decide)).2.1 hS hX.2.2.2.1 (hX.2.2.2.2.1 _ fS_15) (fun _ h => h) d (kk H locs ls hl hR hS)
theorem z_getCS (hX : zC G X cc nL "java/lang/String" rt dd) (d : decode cc pc = .ok (.getstatic 38, 3)) (n : Nat) (hn : pc + 3 = n) (kk : Z G X Q n lv (.int 1 :: st) M) : Z G X Q pc lv st M := by
  obtain ⟨p, l, e, R, s, m, args, below, meth, c⟩ := X
  subst hn
  intro H locs ls hl hR hS
  exact va_gets hX.1 hX.2.1 hX.2.2.2.2.2.2.2.2.2.2.2.2.2.2.2.1 hS hX.2.2.2.1 (hX.2.2.2.2.1 _ fS_38) (fun _ h => h) d (kk H locs ls hl hR hS)
theorem z_getSF (hX : zC G X cc nL "java/lang/String" rt dd) (d : decode cc pc = .ok (.getstatic 1053, 3)) (n : Nat) (hn : pc + 3 = n) (k1 : Z G X Q n lv (.null :: st) M) (k2 : Z G X Q n lv (.ref 147 :: st) M) : Z G X Q pc lv st M := by
  obtain ⟨p, l, e, R, s, m, args, below, meth, c⟩ := X
  subst hn
  intro H locs ls hl hR hS
  rcases hX.2.2.2.2.2.2.2.2.2.2.2.2.2.2.2.2 with hz | hz
  · exact va_gets hX.1 hX.2.1 hz hS hX.2.2.2.1 (hX.2.2.2.2.1 _ fS_1053) (fun _ h => h) d (k1 H locs ls hl hR hS)
  · exact va_gets hX.1 hX.2.1 hz hS hX.2.2.2.1 (hX.2.2.2.2.1 _ fS_1053) (fun _ h => h) d (k2 H locs ls hl hR hS)
theorem z_lenS (hX : zC G X cc nL own rt dd) (d : decode cc pc = .ok (.arraylength, 1)) (n : Nat) (hn : pc + 1 = n) (kk : Z G X Q n lv (.int 108 :: st) M) : Z G X Q pc lv (.ref 146 :: st) M := by
  obtain ⟨p, l, e, R, s, m, args, below, meth, c⟩ := X
  subst hn
  intro H locs ls hl hR hS
  exact va_tlen hX.1 hX.2.1 (hX.2.2.2.2.2.2.2.2.2.2.2.2.2.2.1.1 0 (by decide)).2.2.2 hS rfl d (kk H locs ls hl hR hS)
theorem z_ldS (hX : zC G X cc nL own rt dd) {j : Int32} (d : decode cc pc = .ok (.baload, 1)) (hin : vp_in j 108) (n : Nat) (hn : pc + 1 = n) (kk : Z G X Q n lv (.int (zTb.getD j.toNatClampNeg 0) :: st) M) : Z G X Q pc lv (.int j :: .ref 146 :: st) M := by
  obtain ⟨p, l, e, R, s, m, args, below, meth, c⟩ := X
  subst hn
  intro H locs ls hl hR hS
  exact va_tb hX.1 hX.2.1 (hX.2.2.2.2.2.2.2.2.2.2.2.2.2.2.1.1 0 (by decide)).2.2.2 hS hin rfl d (kk H locs ls hl hR hS)
theorem z_callVS (hX : zC G X cc nL own rt dd) {t : zT} {idx d' : Nat} {As st0 : List Value} {Q' : Option Value → zM → Prop} (hv : zVok t) (hcl : t.1.cls = "java/lang/String") (hl : Cond.methodLink own idx t.1 ∈ zWS) (d : decode cc pc = .ok (.invokevirtual idx, 3))
    (hC : Ct G d' t (.ref 145 :: As) M Q') (hd : d' + 1 ≤ dd) (hA : As.length = t.2.2.2.2) (hst : st0 = As.reverse ++ .ref 145 :: st) (hW : (st.map fun v => v.category).sum ≤ 8) (n : Nat) (hn : pc + 3 = n) (kk : ∀ r M', Q' r M' → Z G X Q n lv (r.toList ++ st) M') : Z G X Q pc lv st0 M := by
  obtain ⟨p, l, e, R, s, m, args, below, meth, c⟩ := X
  subst hn
  intro H locs ls hl' hR hS
  obtain ⟨hx, hb, hml, hown, hts, hK, hI, hlk, hrt, hRm, hN, hZ⟩ := hX
  dsimp only at hx hb hml hown hts hK hlk hrt hRm hN hZ
  obtain ⟨v1, v2, v3, v4, v5, v6⟩ := hv
  have hT : GoodIn zWS (wsV own idx t.1.cls t.1 (zw t)) := zgood (fun w hw => by
    rcases List.mem_append.mp hw with h | h
    · simp only [List.mem_cons, List.not_mem_nil, or_false] at h
      rcases h with rfl | rfl | rfl | rfl
      · exact hl
      · exact v1
      · exact v2
      · exact v3
    · exact zw_in v4 w h)
  have cw : CallW R s args own t.1.cls idx t.1 t.2.1 t.2.2.1 t.2.2.2.1 (zw t) (zr d') 0 0 t.2.2.2.2 := cwV t.2.2.2.2 hts hT rfl rfl rfl ⟨rfl, v5.1, v5.2.1, v5.2.2⟩ (by subst hRm; exact ⟨hd, by show 8 + (t.2.2.1 + 11) + 40 * d' ≤ 40 * dd; omega⟩)
  have hrec : ∃ cell : Cell, H[G.2.2 145]? = some cell ∧ cell.vm.isStatics = false ∧ s.vm.findClass t.1.cls = some cell.cls := by
    rw [hcl]
    have hq := vk_recv (i := 0) hZ.2.2.2.1 (by decide) hS
    exact hq
  refine z_run (a := (Value.ref (G.2.2 145) :: As.map (zrv G.2.2)).toArray) (va_runV (As := As.map (zrv G.2.2)) (b := G.2.2 145) ⟨hx, hb, hml, hown, hts⟩ (hC l) cw ⟨zPc_blind G _ M, hrec, z_pre hK hI hN hZ hR hS (.ref 145 :: As)⟩ rfl (by rw [List.length_map]; exact hA) (show ls.size = nL by rw [hl'.1]; exact hml) ?_ (lv_room (by rw [z_cat]; exact hW)) d ⟨Nat.zero_le _, Nat.zero_le _⟩) hl' hS kk
  show st0.map (zrv G.2.2) = _
  rw [hst]
  simp [zrv]
/-- a static call of any class's method -/
theorem z_callSg (hX : zC G X cc nL own rt dd) {t : zT} {idx d' : Nat} {As st0 : List Value} {Q' : Option Value → zM → Prop} (hv : zSok t) (hl : Cond.methodLink own idx t.1 ∈ zWS) (d : decode cc pc = .ok (.invokestatic idx, 3))
    (hC : Ct G d' t As M Q') (hd : d' + 1 ≤ dd) (hA : As.length = t.2.2.2.2) (hst : st0 = As.reverse ++ st) (hW : (st.map fun v => v.category).sum ≤ 8) (n : Nat) (hn : pc + 3 = n) (kk : ∀ r M', Q' r M' → Z G X Q n lv (r.toList ++ st) M') : Z G X Q pc lv st0 M := by
  obtain ⟨p, l, e, R, s, m, args, below, meth, c⟩ := X
  subst hn
  intro H locs ls hl' hR hS
  obtain ⟨hx, hb, hml, hown, hts, hK, hI, hlk, hrt, hRm, hN, hZ⟩ := hX
  dsimp only at hx hb hml hown hts hK hlk hrt hRm hN hZ
  obtain ⟨v1, v3, v4, v5, v6⟩ := hv
  have cw : CallB R s args own idx t.1 t.2.1 t.2.2.1 t.2.2.2.1 (zw t) (zr d') 0 0 t.2.2.2.2 ∧ (Cond.static t.1).before args s = true := ⟨callB_of t.2.2.2.2 hts (zgood (zw_in v4)) rfl rfl rfl (hts _ v3) (hts _ hl) ⟨v5.1, v5.2.1, v5.2.2⟩ (by subst hRm; exact ⟨hd, by show 8 + (t.2.2.1 + 11) + 40 * d' ≤ 40 * dd; omega⟩), hts _ v1⟩
  refine z_run (a := (As.map (zrv G.2.2)).toArray) (va_runS (As := As.map (zrv G.2.2)) ⟨hx, hb, hml, hown, hts⟩ (hC l) cw ⟨zPc_blind G _ M, z_pre hK hI hN hZ hR hS As⟩ rfl (by rw [List.length_map]; exact hA) (show ls.size = nL by rw [hl'.1]; exact hml) ?_ (lv_room (by rw [z_cat]; exact hW)) d ⟨Nat.zero_le _, Nat.zero_le _⟩) hl' hS kk
  show st0.map (zrv G.2.2) = _
  rw [hst]
  simp
theorem zok_lt {j : Int32} {n : Nat} (h : zok j n = true) : ¬ j < 0 ∧ j.toNatClampNeg < n := by
  unfold zok at h
  simpa using h
theorem zok_lti {j : Int32} (h : zok j 108 = true) : ¬ j < 0 ∧ j < 108 := by
  obtain ⟨h1, h2⟩ := zok_lt h
  refine ⟨h1, ?_⟩
  rw [Int32.lt_iff_toInt_lt]
  have h3 : (0 : Int) ≤ j.toInt := by
    have h4 : ¬ j.toInt < (0 : Int32).toInt := fun z => h1 (Int32.lt_iff_toInt_lt.mpr z)
    simpa using h4
  have h5 : j.toNatClampNeg = j.toInt.toNat := rfl
  rw [h5] at h2
  have h6 : ((108 : Int32)).toInt = 108 := by decide
  rw [h6]
  omega
theorem mS_pre1 {j n : Int32} (h1 : ¬ j < 0) (h2 : j < n) : Ct G 1 tS_pre [.int j, .int n, .null] M (zQip M j) := by
  refine Ct.of (y := yS_pre) rfl plS_pre (Nat.le_of_ble_eq_true rfl) (fun X hX => ?_)
  show Z G X _ 0 [some (.int j), some (.int n), some .null] [] M
  refine z_iload_n hX dS_pre_0 rfl 1 rfl ?_
  refine z_if_lt hX dS_pre_1 9 4 (by decide) rfl (fun hc => absurd hc h1) (fun hc => ?_)
  refine z_iload_n hX dS_pre_4 rfl 5 rfl ?_
  refine z_iload_n hX dS_pre_5 rfl 6 rfl ?_
  refine z_icmp_lt hX dS_pre_6 16 9 (by decide) rfl (fun hc => ?_) (fun hc => absurd h2 hc)
  refine z_iload_n hX dS_pre_16 rfl 17 rfl ?_
  exact z_ireturn hX dS_pre_17 (zend_ip rfl)
theorem mS_pre2 {j n : Int32} (h1 : ¬ j < 0) (h2 : j < n) : Ct G 1 tS_pre [.int j, .int n, .ref 147] M (zQip M j) := by
  refine Ct.of (y := yS_pre) rfl plS_pre (Nat.le_of_ble_eq_true rfl) (fun X hX => ?_)
  show Z G X _ 0 [some (.int j), some (.int n), some (.ref 147)] [] M
  refine z_iload_n hX dS_pre_0 rfl 1 rfl ?_
  refine z_if_lt hX dS_pre_1 9 4 (by decide) rfl (fun hc => absurd hc h1) (fun hc => ?_)
  refine z_iload_n hX dS_pre_4 rfl 5 rfl ?_
  refine z_iload_n hX dS_pre_5 rfl 6 rfl ?_
  refine z_icmp_lt hX dS_pre_6 16 9 (by decide) rfl (fun hc => ?_) (fun hc => absurd h2 hc)
  refine z_iload_n hX dS_pre_16 rfl 17 rfl ?_
  exact z_ireturn hX dS_pre_17 (zend_ip rfl)
theorem mS_chk {j n : Int32} (h1 : ¬ j < 0) (h2 : j < n) : Ct G 2 tS_chk [.int j, .int n] M (zQv M) := by
  refine Ct.of (y := yS_chk) rfl plS_chk (Nat.le_of_ble_eq_true rfl) (fun X hX => ?_)
  show Z G X _ 0 [some (.int j), some (.int n)] [] M
  refine z_iload_n hX dS_chk_0 rfl 1 rfl ?_
  refine z_iload_n hX dS_chk_1 rfl 2 rfl ?_
  refine z_getSF hX dS_chk_2 5 rfl ?_ ?_
  · refine z_callSg hX vS_pre lS_1059 dS_chk_5 (mS_pre1 h1 h2) (by decide) rfl rfl (Nat.le_of_ble_eq_true rfl) 8 rfl (Qi.to (fun v' M' hv => ?_))
    obtain ⟨rfl, rfl⟩ := hv
    refine z_pop hX dS_chk_8 rfl 9 rfl ?_
    exact z_return hX dS_chk_9 (zend_v rfl)
  · refine z_callSg hX vS_pre lS_1059 dS_chk_5 (mS_pre2 h1 h2) (by decide) rfl rfl (Nat.le_of_ble_eq_true rfl) 8 rfl (Qi.to (fun v' M' hv => ?_))
    obtain ⟨rfl, rfl⟩ := hv
    refine z_pop hX dS_chk_8 rfl 9 rfl ?_
    exact z_return hX dS_chk_9 (zend_v rfl)
theorem mS_lch {j : Int32} (hj : zok j 108 = true) : Ct G 3 tS_lch [.ref 146, .int j] M (zQip M (zTb.getD j.toNatClampNeg 0)) := by
  obtain ⟨h1, h2⟩ := zok_lti hj
  obtain ⟨c1, c2⟩ := zch_ok _ (zok_lt hj).2
  refine Ct.of (y := yS_lch) rfl plS_lch (Nat.le_of_ble_eq_true rfl) (fun X hX => ?_)
  show Z G X _ 0 [some (.ref 146), some (.int j)] [] M
  refine z_iload_n hX dS_lch_0 rfl 1 rfl ?_
  refine z_aload_n hX dS_lch_1 rfl 2 rfl ?_
  refine z_lenS hX dS_lch_2 3 rfl ?_
  refine z_callSg hX vS_chk lS_9 dS_lch_3 (mS_chk h1 h2) (by decide) rfl rfl (Nat.le_of_ble_eq_true rfl) 6 rfl (Qv.to (fun M' hv => ?_))
  subst hv
  refine z_aload_n hX dS_lch_6 rfl 7 rfl ?_
  refine z_iload_n hX dS_lch_7 rfl 8 rfl ?_
  refine z_ldS hX dS_lch_8 (zok_in hj) 9 rfl ?_
  refine z_sipush hX dS_lch_9 qs_255 12 rfl ?_
  refine z_iand hX dS_lch_12 13 rfl ?_
  refine z_i2c hX dS_lch_13 14 rfl ?_
  exact z_nreturn hX rfl dS_lch_14 c2 (zend_ip (congrArg some c1))
theorem mS_coder : Ct G 1 tS_coder [.ref 145] M (zQip M 0) := by
  refine Ct.of (y := yS_coder) rfl plS_coder (Nat.le_of_ble_eq_true rfl) (fun X hX => ?_)
  show Z G X _ 0 [some (.ref 145)] [] M
  refine z_getCS hX dS_coder_0 3 rfl ?_
  refine z_if_eq hX dS_coder_3 13 6 (by decide) rfl (fun hc => absurd hc (by decide)) (fun hc => ?_)
  refine z_aload_n hX dS_coder_6 rfl 7 rfl ?_
  refine z_getSc hX dS_coder_7 10 rfl ?_
  refine z_goto hX dS_coder_10 14 (by decide) ?_
  exact z_nreturn hX rfl dS_coder_14 (by decide) (zend_ip rfl)
theorem mS_isL : Ct G 1 tS_isL [.ref 145] M (zQip M 1) := by
  refine Ct.of (y := yS_isL) rfl plS_isL (Nat.le_of_ble_eq_true rfl) (fun X hX => ?_)
  show Z G X _ 0 [some (.ref 145)] [] M
  refine z_getCS hX dS_isL_0 3 rfl ?_
  refine z_if_eq hX dS_isL_3 17 6 (by decide) rfl (fun hc => absurd hc (by decide)) (fun hc => ?_)
  refine z_aload_n hX dS_isL_6 rfl 7 rfl ?_
  refine z_getSc hX dS_isL_7 10 rfl ?_
  refine z_if_ne hX dS_isL_10 17 13 (by decide) rfl (fun hc => absurd rfl hc) (fun hc => ?_)
  refine z_iconst hX dS_isL_13 qi_1 14 rfl ?_
  refine z_goto hX dS_isL_14 18 (by decide) ?_
  exact z_zreturn hX dS_isL_18 (by decide) (zend_ip rfl)
theorem mS_length : Ct G 2 tS_length [.ref 145] M (zQip M 108) := by
  refine Ct.of (y := yS_length) rfl plS_length (Nat.le_of_ble_eq_true rfl) (fun X hX => ?_)
  show Z G X _ 0 [some (.ref 145)] [] M
  refine z_aload_n hX dS_length_0 rfl 1 rfl ?_
  refine z_getSv hX dS_length_1 4 rfl ?_
  refine z_lenS hX dS_length_4 5 rfl ?_
  refine z_aload_n hX dS_length_5 rfl 6 rfl ?_
  refine z_callVS hX vS_coder rfl lS_335 dS_length_6 mS_coder (by decide) rfl rfl (Nat.le_of_ble_eq_true rfl) 9 rfl (Qi.to (fun v' M' hv => ?_))
  obtain ⟨rfl, rfl⟩ := hv
  refine z_ishr hX dS_length_9 10 rfl ?_
  exact z_ireturn hX dS_length_10 (zend_ip (by decide))
theorem mS_charAt {j : Int32} (hj : zok j 108 = true) : Ct G 4 tS_charAt [.ref 145, .int j] M (zQip M (zTb.getD j.toNatClampNeg 0)) := by
  have c2 := zch_ok _ (zok_lt hj).2
  refine Ct.of (y := yS_charAt) rfl plS_charAt (Nat.le_of_ble_eq_true rfl) (fun X hX => ?_)
  show Z G X _ 0 [some (.ref 145), some (.int j)] [] M
  refine z_aload_n hX dS_charAt_0 rfl 1 rfl ?_
  refine z_callVS hX vS_isL rfl lS_492 dS_charAt_1 mS_isL (by decide) rfl rfl (Nat.le_of_ble_eq_true rfl) 4 rfl (Qi.to (fun v' M' hv => ?_))
  obtain ⟨rfl, rfl⟩ := hv
  refine z_if_eq hX dS_charAt_4 16 7 (by decide) rfl (fun hc => absurd hc (by decide)) (fun hc => ?_)
  refine z_aload_n hX dS_charAt_7 rfl 8 rfl ?_
  refine z_getSv hX dS_charAt_8 11 rfl ?_
  refine z_iload_n hX dS_charAt_11 rfl 12 rfl ?_
  refine z_callSg hX vS_lch lS_495 dS_charAt_12 (mS_lch hj) (by decide) rfl rfl (Nat.le_of_ble_eq_true rfl) 15 rfl (Qi.to (fun v' M' hv => ?_))
  obtain ⟨rfl, rfl⟩ := hv
  exact z_nreturn hX rfl dS_charAt_15 (by rw [← c2.1]; exact c2.2) (zend_ip rfl)
end ZS
