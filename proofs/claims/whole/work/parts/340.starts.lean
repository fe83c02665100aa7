/-! ===== the reference: starts(), begins() ===== -/
def fKp (f f' : Nat → Nat → Int32) : Prop := (∀ j, j < 19 → f' j = f j) ∧ f' 19 0 = 0 ∧ f' 20 0 = f 1 7 ∧ f' 21 0 = 0 ∧ f' 22 0 = f 1 3 ∧ f' 23 0 = 0
section MB
variable {B : bG} {z0 a0 : Nat} {X : zX} {P : va_W → Prop} {cc : ByteArray} {nL d kc ks pc k m : Nat} {own : String} {lv : List (Option Value)} {st : List Value} {w : va_W} {h : Nat} {q : Nat → Nat} {f : Nat → Nat → Int32}
theorem zb_iadd (hX : bC B z0 a0 X cc nL own d kc ks) {x y : Int32} {ws : va_W} (v : Int32) (dd : decode cc pc = .ok (.iadd, 1)) (hv : x + y = v) (kk : ZB B z0 X P (pc + 1) lv (.int v :: st) ws k m) : ZB B z0 X P pc lv (.int y :: .int x :: st) ws k m := by
  obtain ⟨p, l, e, R, s, m, args, below, meth, c⟩ := X
  subst hv
  intro H locs ls hl hP hD hS
  exact lv_iadd hX.1 hX.2.1 dd (kk H locs ls hl hP hD hS)
theorem zb_imul (hX : bC B z0 a0 X cc nL own d kc ks) {x y : Int32} {ws : va_W} (v : Int32) (dd : decode cc pc = .ok (.imul, 1)) (hv : x * y = v) (kk : ZB B z0 X P (pc + 1) lv (.int v :: st) ws k m) : ZB B z0 X P pc lv (.int y :: .int x :: st) ws k m := by
  obtain ⟨p, l, e, R, s, m, args, below, meth, c⟩ := X
  subst hv
  intro H locs ls hl hP hD hS
  exact lv_imul hX.1 hX.2.1 dd (kk H locs ls hl hP hD hS)
theorem m_st (hX : bC B z0 a0 X cc nL own d kc ks) {i x : Int32} {N a : Nat} (j : Nat) (dd : decode cc pc = .ok (.iastore, 1)) (ha : (cX10 B h q f)[j + 1]? = some (a, .inl (B.2 0, N, .inl (f j)))) (hi : vp_in i N) (hs : ∀ g, (cX10 B h q f).set (j + 1) (a, .inl (B.2 0, N, .inl g)) = cX10 B h q (zst f j g)) (kk : ∀ f', (∀ a, a ≠ j → f' a = f a) → f' j i.toNatClampNeg = x → ZB B z0 X P (pc + 1) lv st (w ++ cX10 B h q f') k m) : ZB B z0 X P pc lv (.int x :: .int i :: .ref a :: st) (w ++ cX10 B h q f) k m := by
  refine zb_iast hX dd (w.length + (j + 1)) (zb_hj ha) hi (zb_sj.trans (congrArg (w ++ ·) (hs _))) (kk _ (fun a ha => ?_) ?_)
  · unfold zst
    rw [if_neg ha]
  · unfold zst upd
    rw [if_pos rfl, if_pos rfl]
end MB
theorem m6 (i : Nat) : (0 : Int32) + nI i = nI i := Int32.zero_add _
theorem mb1 {B : bG} {z0 a0 : Nat} {X : zX} {P : va_W → Prop} {d kc ks k m : Nat} {w : va_W} {h : Nat} {q : Nat → Nat} (hX : bC B z0 a0 X cX10_starts 4 RX10 d kc ks) : ∀ (t i : Nat) (f : Nat → Nat → Int32) (z : Option Value), i + t = 6 → (∀ f' z, (∀ a, a < 24 → f' a = f a) → ZB B z0 X P 135 [some (.ref h), some (.int 0), some (.int (nI 6)), z] [] (w ++ cX10 B h q f') k m) → ZB B z0 X P 48 [some (.ref h), some (.int 0), some (.int (nI i)), z] [] (w ++ cX10 B h q f) k m := by
  intro t
  induction t with
  | zero =>
    intro i f z hi K
    obtain rfl : i = 6 := by omega
    refine zb_iload_n hX dX10_starts_48 rfl ?_
    refine zb_bipush hX (6) dX10_starts_49 (by decide) ?_
    exact zb_icmp_ge hX dX10_starts_51 135 (by decide) (fun _ => K f z (fun _ _ => rfl)) (fun v => absurd (by decide) v)
  | succ t ih =>
    intro i f z hi K
    refine zb_iload_n hX dX10_starts_48 rfl ?_
    refine zb_bipush hX (6) dX10_starts_49 (by decide) ?_
    refine zb_icmp_ge hX dX10_starts_51 135 (by decide) (fun v => absurd ((le_nI (N := 6) (by decide) (by omega)).mp v) (by omega)) (fun _ => ?_)
    refine zb_bipush hX (6) dX10_starts_54 (by decide) ?_
    refine zb_iload_n hX dX10_starts_56 rfl ?_
    refine zb_imul hX 0 dX10_starts_57 (by decide) ?_
    refine zb_iload_n hX dX10_starts_58 rfl ?_
    refine zb_iadd hX (nI i) dX10_starts_59 (m6 i) ?_
    refine zb_istore_n hX dX10_starts_60 (by decide) (lv' := [some (.ref h), some (.int 0), some (.int (nI i)), some (.int (nI i))]) rfl ?_
    have K86 : ∀ x : Int32, ZB B z0 X P 86 [some (.ref h), some (.int 0), some (.int (nI i)), some (.int (nI i))] [.int x, .int (nI i), .ref (q 24)] (w ++ cX10 B h q f) k m := fun x => by
      refine m_st hX 24 dX10_starts_86 rfl (zok_in (zok_nI (show i < 138 by omega) (by decide))) (fun _ => rfl) (fun f1 ef1 vf1 => ?_)
      refine zb_aload_n hX dX10_starts_87 rfl ?_
      refine zb_get hX fX10_90 dX10_starts_88 (w.length + 0) (zb_hj rfl) rfl ?_
      refine zb_iload_n hX dX10_starts_91 rfl ?_
      refine zb_iconst hX (0) dX10_starts_92 (by decide) ?_
      refine m_st hX 25 dX10_starts_93 rfl (zok_in (zok_nI (show i < 138 by omega) (by decide))) (fun _ => rfl) (fun f2 ef2 vf2 => ?_)
      refine zb_aload_n hX dX10_starts_94 rfl ?_
      refine zb_get hX fX10_93 dX10_starts_95 (w.length + 0) (zb_hj rfl) rfl ?_
      refine zb_iload_n hX dX10_starts_98 rfl ?_
      refine zb_iconst hX (0) dX10_starts_99 (by decide) ?_
      refine m_st hX 26 dX10_starts_100 rfl (zok_in (zok_nI (show i < 138 by omega) (by decide))) (fun _ => rfl) (fun f3 ef3 vf3 => ?_)
      refine zb_aload_n hX dX10_starts_101 rfl ?_
      refine zb_get hX fX10_96 dX10_starts_102 (w.length + 0) (zb_hj rfl) rfl ?_
      refine zb_iload_n hX dX10_starts_105 rfl ?_
      refine zb_iconst hX (-1) dX10_starts_106 (by decide) ?_
      refine m_st hX 27 dX10_starts_107 rfl (zok_in (zok_nI (show i < 138 by omega) (by decide))) (fun _ => rfl) (fun f4 ef4 vf4 => ?_)
      refine zb_aload_n hX dX10_starts_108 rfl ?_
      refine zb_get hX fX10_99 dX10_starts_109 (w.length + 0) (zb_hj rfl) rfl ?_
      refine zb_iload_n hX dX10_starts_112 rfl ?_
      refine zb_iconst hX (0) dX10_starts_113 (by decide) ?_
      refine m_st hX 28 dX10_starts_114 rfl (zok_in (zok_nI (show i < 138 by omega) (by decide))) (fun _ => rfl) (fun f5 ef5 vf5 => ?_)
      refine zb_aload_n hX dX10_starts_115 rfl ?_
      refine zb_get hX fX10_102 dX10_starts_116 (w.length + 0) (zb_hj rfl) rfl ?_
      refine zb_iload_n hX dX10_starts_119 rfl ?_
      refine zb_iconst hX (0) dX10_starts_120 (by decide) ?_
      refine m_st hX 29 dX10_starts_121 rfl (zok_in (zok_nI (show i < 138 by omega) (by decide))) (fun _ => rfl) (fun f6 ef6 vf6 => ?_)
      refine zb_aload_n hX dX10_starts_122 rfl ?_
      refine zb_get hX fX10_105 dX10_starts_123 (w.length + 0) (zb_hj rfl) rfl ?_
      refine zb_iload_n hX dX10_starts_126 rfl ?_
      refine zb_iload_n hX dX10_starts_127 rfl ?_
      refine m_st hX 30 dX10_starts_128 rfl (zok_in (zok_nI (show i < 138 by omega) (by decide))) (fun _ => rfl) (fun f7 ef7 vf7 => ?_)
      refine zb_iinc hX dX10_starts_129 (x := nI i) (v := nI (i + 1)) rfl (nI_add i 1) (by decide) rfl ?_
      refine zb_goto hX dX10_starts_132 48 (by decide) ?_
      refine ih (i + 1) f7 (some (.int (nI i))) (by omega) (fun f8 z8 h8 => K f8 z8 (fun a ha => ?_))
      rw [h8 a ha, ef7 a (by omega), ef6 a (by omega), ef5 a (by omega), ef4 a (by omega), ef3 a (by omega), ef2 a (by omega), ef1 a (by omega)]
    refine zb_aload_n hX dX10_starts_61 rfl ?_
    refine zb_get hX fX10_87 dX10_starts_62 (w.length + 0) (zb_hj rfl) rfl ?_
    refine zb_iload_n hX dX10_starts_65 rfl ?_
    refine zb_iload_n hX dX10_starts_66 rfl ?_
    refine zb_aload_n hX dX10_starts_67 rfl ?_
    refine zb_get hX fX10_13 dX10_starts_68 (w.length + 0) (zb_hj rfl) rfl ?_
    refine zb_iconst hX (0) dX10_starts_71 (by decide) ?_
    refine zb_iald hX dX10_starts_72 (w.length + 2) (zb_hj rfl) (by unfold vp_in; decide) ?_
    refine zb_icmp_ge hX dX10_starts_73 85 (by decide) (fun _ => zb_iconst hX (0) dX10_starts_85 (by decide) (K86 0)) (fun _ => ?_)
    refine zb_aload_n hX dX10_starts_76 rfl ?_
    refine zb_get hX fX10_22 dX10_starts_77 (w.length + 0) (zb_hj rfl) rfl ?_
    refine zb_iload_n hX dX10_starts_80 rfl ?_
    refine zb_iald hX dX10_starts_81 (w.length + 5) (zb_hj rfl) (zok_in (zok_nI (show i < 12 by omega) (by decide))) ?_
    exact zb_goto hX dX10_starts_82 86 (by decide) (K86 _)
theorem mb2 {B : bG} {z0 a0 : Nat} {X : zX} {P : va_W → Prop} {d kc ks k m : Nat} {w : va_W} {h : Nat} {q : Nat → Nat} (hX : bC B z0 a0 X cX10_starts 4 RX10 d kc ks) : ∀ (t i : Nat) (f : Nat → Nat → Int32) (z : Option Value), i + t = 8 → (∀ f', (∀ a, a < 24 → f' a = f a) → ZB B z0 X P 192 [some (.ref h), some (.int 0), some (.int (nI 8)), z] [] (w ++ cX10 B h q f') k m) → ZB B z0 X P 137 [some (.ref h), some (.int 0), some (.int (nI i)), z] [] (w ++ cX10 B h q f) k m := by
  intro t
  induction t with
  | zero =>
    intro i f z hi K
    obtain rfl : i = 8 := by omega
    refine zb_iload_n hX dX10_starts_137 rfl ?_
    refine zb_bipush hX (8) dX10_starts_138 (by decide) ?_
    exact zb_icmp_ge hX dX10_starts_140 192 (by decide) (fun _ => K f (fun _ _ => rfl)) (fun v => absurd (by decide) v)
  | succ t ih =>
    intro i f z hi K
    refine zb_iload_n hX dX10_starts_137 rfl ?_
    refine zb_bipush hX (8) dX10_starts_138 (by decide) ?_
    refine zb_icmp_ge hX dX10_starts_140 192 (by decide) (fun v => absurd ((le_nI (N := 8) (by decide) (by omega)).mp v) (by omega)) (fun _ => ?_)
    refine zb_aload_n hX dX10_starts_143 rfl ?_
    refine zb_get hX fX10_108 dX10_starts_144 (w.length + 0) (zb_hj rfl) rfl ?_
    refine zb_bipush hX (8) dX10_starts_147 (by decide) ?_
    refine zb_iload_n hX dX10_starts_149 rfl ?_
    refine zb_imul hX 0 dX10_starts_150 (by decide) ?_
    refine zb_iload_n hX dX10_starts_151 rfl ?_
    refine zb_iadd hX (nI i) dX10_starts_152 (m6 i) ?_
    refine zb_iconst hX (0) dX10_starts_153 (by decide) ?_
    refine m_st hX 31 dX10_starts_154 rfl (zok_in (zok_nI (show i < 184 by omega) (by decide))) (fun _ => rfl) (fun f1 ef1 vf1 => ?_)
    have K185 : ∀ x : Int32, ZB B z0 X P 185 [some (.ref h), some (.int 0), some (.int (nI i)), z] [.int x, .int (nI i), .ref (q 32)] (w ++ cX10 B h q f1) k m := fun x => by
      refine m_st hX 32 dX10_starts_185 rfl (zok_in (zok_nI (show i < 184 by omega) (by decide))) (fun _ => rfl) (fun f2 ef2 vf2 => ?_)
      refine zb_iinc hX dX10_starts_186 (x := nI i) (v := nI (i + 1)) rfl (nI_add i 1) (by decide) rfl ?_
      refine zb_goto hX dX10_starts_189 137 (by decide) ?_
      refine ih (i + 1) f2 z (by omega) (fun f8 h8 => K f8 (fun a ha => ?_))
      rw [h8 a ha, ef2 a (by omega), ef1 a (by omega)]
    refine zb_aload_n hX dX10_starts_155 rfl ?_
    refine zb_get hX fX10_111 dX10_starts_156 (w.length + 0) (zb_hj rfl) rfl ?_
    refine zb_bipush hX (8) dX10_starts_159 (by decide) ?_
    refine zb_iload_n hX dX10_starts_161 rfl ?_
    refine zb_imul hX 0 dX10_starts_162 (by decide) ?_
    refine zb_iload_n hX dX10_starts_163 rfl ?_
    refine zb_iadd hX (nI i) dX10_starts_164 (m6 i) ?_
    refine zb_iload_n hX dX10_starts_165 rfl ?_
    refine zb_aload_n hX dX10_starts_166 rfl ?_
    refine zb_get hX fX10_13 dX10_starts_167 (w.length + 0) (zb_hj rfl) rfl ?_
    refine zb_iconst hX (1) dX10_starts_170 (by decide) ?_
    refine zb_iald hX dX10_starts_171 (w.length + 2) (zb_hj rfl) (by unfold vp_in; decide) ?_
    refine zb_icmp_ge hX dX10_starts_172 184 (by decide) (fun _ => zb_iconst hX (0) dX10_starts_184 (by decide) (K185 0)) (fun _ => ?_)
    refine zb_aload_n hX dX10_starts_175 rfl ?_
    refine zb_get hX fX10_37 dX10_starts_176 (w.length + 0) (zb_hj rfl) rfl ?_
    refine zb_iload_n hX dX10_starts_179 rfl ?_
    refine zb_iald hX dX10_starts_180 (w.length + 10) (zb_hj rfl) (zok_in (zok_nI (show i < 16 by omega) (by decide))) ?_
    exact zb_goto hX dX10_starts_181 185 (by decide) (K185 _)
theorem bX10_starts {B : bG} {z0 a0 : Nat} {w : va_W} {h : Nat} {q : Nat → Nat} {f : Nat → Nat → Int32} : Cb B z0 a0 0 0 0 tX10_starts [.ref h, .int 0] (w ++ cX10 B h q f) (fun ws => ∃ f', ws = w ++ cX10 B h q f' ∧ fKp f f') := by
  refine Cb.of rfl (by decide) (Nat.le_of_ble_eq_true rfl) (fun X hX hin => ?_)
  refine zb_aload_n hX dX10_starts_0 rfl ?_
  refine zb_get hX fX10_72 dX10_starts_1 (w.length + 0) (zb_hj rfl) rfl ?_
  refine zb_iload_n hX dX10_starts_4 rfl ?_
  refine zb_iconst hX (0) dX10_starts_5 (by decide) ?_
  refine m_st hX 19 dX10_starts_6 rfl (by unfold vp_in; decide) (fun _ => rfl) (fun f1 ef1 vf1 => ?_)
  refine zb_aload_n hX dX10_starts_7 rfl ?_
  refine zb_get hX fX10_75 dX10_starts_8 (w.length + 0) (zb_hj rfl) rfl ?_
  refine zb_iload_n hX dX10_starts_11 rfl ?_
  refine zb_aload_n hX dX10_starts_12 rfl ?_
  refine zb_get hX fX10_13 dX10_starts_13 (w.length + 0) (zb_hj rfl) rfl ?_
  refine zb_bipush hX (7) dX10_starts_16 (by decide) ?_
  refine zb_iald hX dX10_starts_18 (w.length + 2) (zb_hj rfl) (by unfold vp_in; decide) ?_
  refine m_st hX 20 dX10_starts_19 rfl (by unfold vp_in; decide) (fun _ => rfl) (fun f2 ef2 vf2 => ?_)
  refine zb_aload_n hX dX10_starts_20 rfl ?_
  refine zb_get hX fX10_78 dX10_starts_21 (w.length + 0) (zb_hj rfl) rfl ?_
  refine zb_iload_n hX dX10_starts_24 rfl ?_
  refine zb_iconst hX (0) dX10_starts_25 (by decide) ?_
  refine m_st hX 21 dX10_starts_26 rfl (by unfold vp_in; decide) (fun _ => rfl) (fun f3 ef3 vf3 => ?_)
  refine zb_aload_n hX dX10_starts_27 rfl ?_
  refine zb_get hX fX10_81 dX10_starts_28 (w.length + 0) (zb_hj rfl) rfl ?_
  refine zb_iload_n hX dX10_starts_31 rfl ?_
  refine zb_aload_n hX dX10_starts_32 rfl ?_
  refine zb_get hX fX10_13 dX10_starts_33 (w.length + 0) (zb_hj rfl) rfl ?_
  refine zb_iconst hX (3) dX10_starts_36 (by decide) ?_
  refine zb_iald hX dX10_starts_37 (w.length + 2) (zb_hj rfl) (by unfold vp_in; decide) ?_
  refine m_st hX 22 dX10_starts_38 rfl (by unfold vp_in; decide) (fun _ => rfl) (fun f4 ef4 vf4 => ?_)
  refine zb_aload_n hX dX10_starts_39 rfl ?_
  refine zb_get hX fX10_84 dX10_starts_40 (w.length + 0) (zb_hj rfl) rfl ?_
  refine zb_iload_n hX dX10_starts_43 rfl ?_
  refine zb_iconst hX (0) dX10_starts_44 (by decide) ?_
  refine m_st hX 23 dX10_starts_45 rfl (by unfold vp_in; decide) (fun _ => rfl) (fun f5 ef5 vf5 => ?_)
  refine zb_iconst hX (0) dX10_starts_46 (by decide) ?_
  refine zb_istore_n hX dX10_starts_47 (by decide) (lv' := [some (.ref h), some (.int 0), some (.int (nI 0)), none]) rfl ?_
  refine mb1 hX 6 0 f5 none rfl (fun f6 z6 h6 => ?_)
  refine zb_iconst hX (0) dX10_starts_135 (by decide) ?_
  refine zb_istore_n hX dX10_starts_136 (by decide) (lv' := [some (.ref h), some (.int 0), some (.int (nI 0)), z6]) rfl ?_
  refine mb2 hX 8 0 f6 z6 rfl (fun f7 h7 => ?_)
  refine zb_return hX dX10_starts_192 (Nat.le_refl _) (Nat.le_refl _) ⟨f7, rfl, fun j hj => ?_, ?_, ?_, ?_, ?_, ?_⟩
  · rw [h7 j (by omega), h6 j (by omega), ef5 j (by omega), ef4 j (by omega), ef3 j (by omega), ef2 j (by omega), ef1 j (by omega)]
  · rw [h7 19 (by omega), h6 19 (by omega), ef5 19 (by omega), ef4 19 (by omega), ef3 19 (by omega), ef2 19 (by omega)]; exact vf1
  · rw [h7 20 (by omega), h6 20 (by omega), ef5 20 (by omega), ef4 20 (by omega), ef3 20 (by omega)]; rw [ef1 1 (by omega)] at vf2; exact vf2
  · rw [h7 21 (by omega), h6 21 (by omega), ef5 21 (by omega), ef4 21 (by omega)]; exact vf3
  · rw [h7 22 (by omega), h6 22 (by omega), ef5 22 (by omega)]; rw [ef3 1 (by omega), ef2 1 (by omega), ef1 1 (by omega)] at vf4; exact vf4
  · rw [h7 23 (by omega), h6 23 (by omega)]; exact vf5
theorem bX10_begins {B : bG} {z0 a0 : Nat} {w : va_W} {h : Nat} {q : Nat → Nat} {f : Nat → Nat → Int32} : Cb B z0 a0 1 0 0 tX10_begins [.ref h] (w ++ cX10 B h q f) (fun ws => ∃ f', ws = w ++ cX10 B h q f' ∧ fKp f f') := by
  refine Cb.of rfl (by decide) (Nat.le_of_ble_eq_true rfl) (fun X hX hin => ?_)
  refine zb_aload_n hX dX10_begins_0 rfl ?_
  refine zb_iconst hX (0) dX10_begins_1 (by decide) ?_
  refine zb_callV hX vX10_starts rfl lX10_334 dX10_begins_2 (q0 := w.length + 0) (zb_hj rfl) rfl bX10_starts (by decide) (As := [.int 0]) rfl rfl (Nat.le_of_ble_eq_true rfl) (by decide) (by decide) (fun ws9 e9 => ?_)
  obtain ⟨f, rfl, hf⟩ := e9
  exact zb_return hX dX10_begins_5 (by decide) (by decide) ⟨f, rfl, hf⟩
