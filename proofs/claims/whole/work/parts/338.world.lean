/-! ===== World: begin() and its constructor ===== -/
def cX8 (B : bG) (h p : Nat) (q : Nat → Nat) (f : Nat → Nat → Int32) (n : Nat → Int32) : va_W := [(h, .inr (7, [.ref p, .ref (q 0), .ref (q 1), .ref (q 2), .ref (q 3), .ref (q 4), .ref (q 5), .ref (q 6), .ref (q 7), .ref (q 8), .int (n 0), .int (n 1), .int (n 2), .int (n 3), .int (n 4), .int (n 5)])), (q 0, .inl (B.2 0, 6, .inl (f 0))), (q 1, .inl (B.2 0, 6, .inl (f 1))), (q 2, .inl (B.2 0, 6, .inl (f 2))), (q 3, .inl (B.2 0, 6, .inl (f 3))), (q 4, .inl (B.2 0, 6, .inl (f 4))), (q 5, .inl (B.2 0, 6, .inl (f 5))), (q 6, .inl (B.2 1, 6, .inl (f 6))), (q 7, .inl (B.2 0, 8, .inl (f 7))), (q 8, .inl (B.2 0, 8, .inl (f 8)))]
def zst (f : Nat → Nat → Int32) (j : Nat) (g : Nat → Int32) : Nat → Nat → Int32 := fun a => if a = j then g else f a
def nst (f : Nat → Int32) (j : Nat) (g : Int32) : Nat → Int32 := fun a => if a = j then g else f a
section WB
variable {B : bG} {z0 a0 : Nat} {X : zX} {P : va_W → Prop} {cc : ByteArray} {nL d kc ks pc k m : Nat} {own : String} {lv : List (Option Value)} {st : List Value} {w : va_W} {h p : Nat} {q : Nat → Nat} {f : Nat → Nat → Int32} {n : Nat → Int32}
theorem w_st (hX : bC B z0 a0 X cc nL own d kc ks) {i x : Int32} {N a : Nat} (j : Nat) (dd : decode cc pc = .ok (.iastore, 1)) (ha : (cX8 B h p q f n)[j + 1]? = some (a, .inl (B.2 0, N, .inl (f j)))) (hi : vp_in i N) (hs : ∀ g, (cX8 B h p q f n).set (j + 1) (a, .inl (B.2 0, N, .inl g)) = cX8 B h p q (zst f j g) n) (kk : ∀ f', ZB B z0 X P (pc + 1) lv st (w ++ cX8 B h p q f' n) k m) : ZB B z0 X P pc lv (.int x :: .int i :: .ref a :: st) (w ++ cX8 B h p q f n) k m :=
  zb_iast hX dd (w.length + (j + 1)) (zb_hj ha) hi (zb_sj.trans (congrArg (w ++ ·) (hs _))) (kk _)
theorem w_zst (hX : bC B z0 a0 X cc nL own d kc ks) {i x : Int32} {N a : Nat} (j : Nat) (dd : decode cc pc = .ok (.bastore, 1)) (ha : (cX8 B h p q f n)[j + 1]? = some (a, .inl (B.2 1, N, .inl (f j)))) (hi : vp_in i N) (hs : ∀ g, (cX8 B h p q f n).set (j + 1) (a, .inl (B.2 1, N, .inl g)) = cX8 B h p q (zst f j g) n) (kk : ∀ f', ZB B z0 X P (pc + 1) lv st (w ++ cX8 B h p q f' n) k m) : ZB B z0 X P pc lv (.int x :: .int i :: .ref a :: st) (w ++ cX8 B h p q f n) k m :=
  zb_zast hX dd (w.length + (j + 1)) (zb_hj ha) hi (zb_sj.trans (congrArg (w ++ ·) (hs _))) (kk _)
theorem w_put (hX : bC B z0 a0 X cc nL own d kc ks) {idx : Nat} {x : Int32} (j : Nat) (hf : zFldP own idx 7 (10 + j) .int) (dd : decode cc pc = .ok (.putfield idx, 3)) (hj : j < 6) (hs : ∀ fs c R, cX8 B h p q f n = (h, .inr (7, fs)) :: R → (c = (h, Sum.inr (7, fs.set (10 + j) (.int x)))) → c :: R = cX8 B h p q f (nst n j x)) (kk : ZB B z0 X P (pc + 3) lv st (w ++ cX8 B h p q f (nst n j x)) k m) : ZB B z0 X P pc lv (.int x :: .ref h :: st) (w ++ cX8 B h p q f n) k m := by
  refine zb_put hX hf dd (w.length + 0) (zb_hj rfl) ?_ rfl rfl (zb_sj.trans (congrArg (w ++ ·) ?_)) kk
  · show 10 + j < 16
    omega
  · exact hs _ _ _ rfl rfl
end WB

theorem le_nI {i N : Nat} (h : N < 2 ^ 31) (hi : i < 2 ^ 31) : (nI N ≤ nI i) ↔ N ≤ i := by
  rw [Int32.le_iff_toInt_le, nI_toInt h, nI_toInt hi]
  omega

theorem wb1 {B : bG} {z0 a0 : Nat} {X : zX} {P : va_W → Prop} {d kc ks k m : Nat} {w : va_W} {h p : Nat} {q : Nat → Nat} {n : Nat → Int32} (hX : bC B z0 a0 X cX8_begin 3 RX8 d kc ks) {jp j3 r3 : Nat} {fsP : List Value} {g3 : Nat → Int32} (hp : w[jp]? = some (p, .inr (3, fsP))) (f3 : fsP[3]? = some (.ref r3)) (h3 : w[j3]? = some (r3, .inl (B.2 0, 6, .inl g3))) : ∀ (t i : Nat) (f : Nat → Nat → Int32), i + t = 6 → (∀ f', ZB B z0 X P 74 [some (.ref h), some (.ref p), some (.int (nI 6))] [] (w ++ cX8 B h p q f' n) k m) → ZB B z0 X P 7 [some (.ref h), some (.ref p), some (.int (nI i))] [] (w ++ cX8 B h p q f n) k m := by
  intro t
  induction t with
  | zero =>
    intro i f hi K
    obtain rfl : i = 6 := by omega
    refine zb_iload_n hX dX8_begin_7 rfl ?_
    refine zb_bipush hX (6) dX8_begin_8 (by decide) ?_
    exact zb_icmp_ge hX dX8_begin_10 74 (by decide) (fun _ => K f) (fun v => absurd (by decide) v)
  | succ t ih =>
    intro i f hi K
    refine zb_iload_n hX dX8_begin_7 rfl ?_
    refine zb_bipush hX (6) dX8_begin_8 (by decide) ?_
    refine zb_icmp_ge hX dX8_begin_10 74 (by decide) (fun v => absurd ((le_nI (N := 6) (by decide) (by omega)).mp v) (by omega)) (fun _ => ?_)
    refine zb_aload_n hX dX8_begin_13 rfl ?_
    refine zb_get hX fX8_9 dX8_begin_14 (w.length + 0) (zb_hj rfl) rfl ?_
    refine zb_iload_n hX dX8_begin_17 rfl ?_
    refine zb_iload_n hX dX8_begin_18 rfl ?_
    refine w_st hX 0 dX8_begin_19 rfl (zok_in (zok_nI (show i < 6 by omega) (by decide))) (fun _ => rfl) (fun f1 => ?_)
    refine zb_aload_n hX dX8_begin_20 rfl ?_
    refine zb_get hX fX8_15 dX8_begin_21 (w.length + 0) (zb_hj rfl) rfl ?_
    refine zb_iload_n hX dX8_begin_24 rfl ?_
    refine zb_aload_n hX dX8_begin_25 rfl ?_
    refine zb_get hX fX8_48 dX8_begin_26 jp (zb_hw hp) f3 ?_
    refine zb_iload_n hX dX8_begin_29 rfl ?_
    refine zb_iald hX dX8_begin_30 j3 (zb_hw h3) (zok_in (zok_nI (show i < 6 by omega) (by decide))) ?_
    refine w_st hX 1 dX8_begin_31 rfl (zok_in (zok_nI (show i < 6 by omega) (by decide))) (fun _ => rfl) (fun f2 => ?_)
    refine zb_aload_n hX dX8_begin_32 rfl ?_
    refine zb_get hX fX8_18 dX8_begin_33 (w.length + 0) (zb_hj rfl) rfl ?_
    refine zb_iload_n hX dX8_begin_36 rfl ?_
    refine zb_iconst hX (0) dX8_begin_37 (by decide) ?_
    refine w_st hX 2 dX8_begin_38 rfl (zok_in (zok_nI (show i < 6 by omega) (by decide))) (fun _ => rfl) (fun f3 => ?_)
    refine zb_aload_n hX dX8_begin_39 rfl ?_
    refine zb_get hX fX8_21 dX8_begin_40 (w.length + 0) (zb_hj rfl) rfl ?_
    refine zb_iload_n hX dX8_begin_43 rfl ?_
    refine zb_iconst hX (0) dX8_begin_44 (by decide) ?_
    refine w_st hX 3 dX8_begin_45 rfl (zok_in (zok_nI (show i < 6 by omega) (by decide))) (fun _ => rfl) (fun f4 => ?_)
    refine zb_aload_n hX dX8_begin_46 rfl ?_
    refine zb_get hX fX8_24 dX8_begin_47 (w.length + 0) (zb_hj rfl) rfl ?_
    refine zb_iload_n hX dX8_begin_50 rfl ?_
    refine zb_bipush hX (-2) dX8_begin_51 (by decide) ?_
    refine w_st hX 4 dX8_begin_53 rfl (zok_in (zok_nI (show i < 6 by omega) (by decide))) (fun _ => rfl) (fun f5 => ?_)
    refine zb_aload_n hX dX8_begin_54 rfl ?_
    refine zb_get hX fX8_27 dX8_begin_55 (w.length + 0) (zb_hj rfl) rfl ?_
    refine zb_iload_n hX dX8_begin_58 rfl ?_
    refine zb_iconst hX (0) dX8_begin_59 (by decide) ?_
    refine w_st hX 5 dX8_begin_60 rfl (zok_in (zok_nI (show i < 6 by omega) (by decide))) (fun _ => rfl) (fun f6 => ?_)
    refine zb_aload_n hX dX8_begin_61 rfl ?_
    refine zb_get hX fX8_30 dX8_begin_62 (w.length + 0) (zb_hj rfl) rfl ?_
    refine zb_iload_n hX dX8_begin_65 rfl ?_
    refine zb_iconst hX (0) dX8_begin_66 (by decide) ?_
    refine w_zst hX 6 dX8_begin_67 rfl (zok_in (zok_nI (show i < 6 by omega) (by decide))) (fun _ => rfl) (fun f7 => ?_)
    refine zb_iinc hX dX8_begin_68 (x := nI i) (v := nI (i + 1)) rfl (nI_add i 1) (by decide) rfl ?_
    refine zb_goto hX dX8_begin_71 7 (by decide) ?_
    exact ih (i + 1) f7 (by omega) K
theorem wb2 {B : bG} {z0 a0 : Nat} {X : zX} {P : va_W → Prop} {d kc ks k m : Nat} {w : va_W} {h p : Nat} {q : Nat → Nat} {n : Nat → Int32} (hX : bC B z0 a0 X cX8_begin 3 RX8 d kc ks) {jp j9 r9 : Nat} {fsP : List Value} {g9 : Nat → Int32} (hp : w[jp]? = some (p, .inr (3, fsP))) (f9 : fsP[9]? = some (.ref r9)) (h9 : w[j9]? = some (r9, .inl (B.2 0, 8, .inl g9))) : ∀ (t i : Nat) (f : Nat → Nat → Int32), i + t = 8 → (∀ f', ZB B z0 X P 107 [some (.ref h), some (.ref p), some (.int (nI 8))] [] (w ++ cX8 B h p q f' n) k m) → ZB B z0 X P 76 [some (.ref h), some (.ref p), some (.int (nI i))] [] (w ++ cX8 B h p q f n) k m := by
  intro t
  induction t with
  | zero =>
    intro i f hi K
    obtain rfl : i = 8 := by omega
    refine zb_iload_n hX dX8_begin_76 rfl ?_
    refine zb_bipush hX (8) dX8_begin_77 (by decide) ?_
    exact zb_icmp_ge hX dX8_begin_79 107 (by decide) (fun _ => K f) (fun v => absurd (by decide) v)
  | succ t ih =>
    intro i f hi K
    refine zb_iload_n hX dX8_begin_76 rfl ?_
    refine zb_bipush hX (8) dX8_begin_77 (by decide) ?_
    refine zb_icmp_ge hX dX8_begin_79 107 (by decide) (fun v => absurd ((le_nI (N := 8) (by decide) (by omega)).mp v) (by omega)) (fun _ => ?_)
    refine zb_aload_n hX dX8_begin_82 rfl ?_
    refine zb_get hX fX8_34 dX8_begin_83 (w.length + 0) (zb_hj rfl) rfl ?_
    refine zb_iload_n hX dX8_begin_86 rfl ?_
    refine zb_iconst hX (0) dX8_begin_87 (by decide) ?_
    refine w_st hX 7 dX8_begin_88 rfl (zok_in (zok_nI (show i < 8 by omega) (by decide))) (fun _ => rfl) (fun f1 => ?_)
    refine zb_aload_n hX dX8_begin_89 rfl ?_
    refine zb_get hX fX8_37 dX8_begin_90 (w.length + 0) (zb_hj rfl) rfl ?_
    refine zb_iload_n hX dX8_begin_93 rfl ?_
    refine zb_aload_n hX dX8_begin_94 rfl ?_
    refine zb_get hX fX8_51 dX8_begin_95 jp (zb_hw hp) f9 ?_
    refine zb_iload_n hX dX8_begin_98 rfl ?_
    refine zb_iald hX dX8_begin_99 j9 (zb_hw h9) (zok_in (zok_nI (show i < 8 by omega) (by decide))) ?_
    refine w_st hX 8 dX8_begin_100 rfl (zok_in (zok_nI (show i < 8 by omega) (by decide))) (fun _ => rfl) (fun f2 => ?_)
    refine zb_iinc hX dX8_begin_101 (x := nI i) (v := nI (i + 1)) rfl (nI_add i 1) (by decide) rfl ?_
    refine zb_goto hX dX8_begin_104 76 (by decide) ?_
    exact ih (i + 1) f2 (by omega) K
/-- what a begun World's own numbers are -/
def nW (c0 c1 : Int32) (j : Nat) : Int32 := ([0, 0, c0, 0, c1, 0] : List Int32).getD j 0
/-- where a plan stands in the world -/
def wPl (B : bG) (w : va_W) (p : Nat) (c0 c1 : Int32) : Prop := ∃ (jp j3 j9 j14 r3 r9 r14 : Nat) (fsP : List Value) (g3 g9 g14 : Nat → Int32), w[jp]? = some (p, .inr (3, fsP)) ∧ fsP[3]? = some (.ref r3) ∧ fsP[9]? = some (.ref r9) ∧ fsP[14]? = some (.ref r14) ∧ w[j3]? = some (r3, .inl (B.2 0, 6, .inl g3)) ∧ w[j9]? = some (r9, .inl (B.2 0, 8, .inl g9)) ∧ w[j14]? = some (r14, .inl (B.2 0, 5, .inl g14)) ∧ g14 0 = c0 ∧ g14 4 = c1
theorem bX8_begin {B : bG} {z0 a0 : Nat} {w : va_W} {h p : Nat} {q : Nat → Nat} {f : Nat → Nat → Int32} {n : Nat → Int32} {c0 c1 : Int32} (hw : wPl B w p c0 c1) : Cb B z0 a0 0 0 0 tX8_begin [.ref h, .ref p] (w ++ cX8 B h p q f n) (fun ws => ∃ f', ws = w ++ cX8 B h p q f' (nW c0 c1)) := by
  obtain ⟨jp, j3, j9, j14, r3, r9, r14, fsP, g3, g9, g14, hp, f3, f9, f14, h3, h9, h14, e0, e1⟩ := hw
  refine Cb.of rfl (by decide) (Nat.le_of_ble_eq_true rfl) (fun X hX hin => ?_)
  refine zb_aload_n hX dX8_begin_0 rfl ?_
  refine zb_aload_n hX dX8_begin_1 rfl ?_
  refine zb_put hX pX8_40 dX8_begin_2 (w.length + 0) (zb_hj rfl) (Nat.le_of_ble_eq_true rfl) rfl rfl zb_sj ?_
  refine zb_cast (ws' := w ++ cX8 B h p q f n) rfl ?_
  refine zb_iconst hX (0) dX8_begin_5 (by decide) ?_
  refine zb_istore_n hX dX8_begin_6 (by decide) (lv' := [some (.ref h), some (.ref p), some (.int (nI 0))]) rfl ?_
  refine wb1 hX hp f3 h3 6 0 f rfl (fun f2 => ?_)
  refine zb_iconst hX (0) dX8_begin_74 (by decide) ?_
  refine zb_istore_n hX dX8_begin_75 (by decide) (lv' := [some (.ref h), some (.ref p), some (.int (nI 0))]) rfl ?_
  refine wb2 hX hp f9 h9 8 0 f2 rfl (fun f3 => ?_)
  refine zb_aload_n hX dX8_begin_107 rfl ?_
  refine zb_iconst hX (0) dX8_begin_108 (by decide) ?_
  refine w_put hX 0 pX8_52 dX8_begin_109 (by decide) (fun _ _ _ e1 e2 => by cases e1; cases e2; rfl) ?_
  refine zb_aload_n hX dX8_begin_112 rfl ?_
  refine zb_iconst hX (0) dX8_begin_113 (by decide) ?_
  refine w_put hX 1 pX8_56 dX8_begin_114 (by decide) (fun _ _ _ e1 e2 => by cases e1; cases e2; rfl) ?_
  refine zb_aload_n hX dX8_begin_117 rfl ?_
  refine zb_aload_n hX dX8_begin_118 rfl ?_
  refine zb_get hX fX8_59 dX8_begin_119 jp (zb_hw hp) f14 ?_
  refine zb_iconst hX (0) dX8_begin_122 (by decide) ?_
  refine zb_iald hX dX8_begin_123 j14 (zb_hw h14) (by unfold vp_in; decide) ?_
  refine w_put hX 2 pX8_62 dX8_begin_124 (by decide) (fun _ _ _ e1 e2 => by cases e1; cases e2; rfl) ?_
  refine zb_aload_n hX dX8_begin_127 rfl ?_
  refine zb_iconst hX (0) dX8_begin_128 (by decide) ?_
  refine w_put hX 3 pX8_65 dX8_begin_129 (by decide) (fun _ _ _ e1 e2 => by cases e1; cases e2; rfl) ?_
  refine zb_aload_n hX dX8_begin_132 rfl ?_
  refine zb_aload_n hX dX8_begin_133 rfl ?_
  refine zb_get hX fX8_59 dX8_begin_134 jp (zb_hw hp) f14 ?_
  refine zb_iconst hX (4) dX8_begin_137 (by decide) ?_
  refine zb_iald hX dX8_begin_138 j14 (zb_hw h14) (by unfold vp_in; decide) ?_
  refine w_put hX 4 pX8_68 dX8_begin_139 (by decide) (fun _ _ _ e1 e2 => by cases e1; cases e2; rfl) ?_
  refine zb_aload_n hX dX8_begin_142 rfl ?_
  refine zb_iconst hX (0) dX8_begin_143 (by decide) ?_
  refine w_put hX 5 pX8_71 dX8_begin_144 (by decide) (fun _ _ _ e1 e2 => by cases e1; cases e2; rfl) ?_
  refine zb_return hX dX8_begin_147 (Nat.le_refl _) (Nat.le_refl _) ⟨f3, ?_⟩
  subst e0 e1
  rfl
