/-! ===== constructors: the object that is made stands at the head of what is new ===== -/
section ZB0
variable {B : bG} {z0 a0 : Nat} {X : zX} {P : va_W → Prop} {cc : ByteArray} {nL d kc ks pc k n : Nat} {own : String} {lv : List (Option Value)} {st : List Value}
theorem zb_cast {ws ws' : va_W} (h : ws = ws') (kk : ZB B z0 X P pc lv st ws' k n) : ZB B z0 X P pc lv st ws k n := by
  subst h
  exact kk
theorem zb_h0 {w R : va_W} {c : Nat × va_E} : (w ++ c :: R)[w.length]? = some c := by
  rw [List.getElem?_append_right (Nat.le_refl _), Nat.sub_self]
  rfl
theorem zb_s0 {w R : va_W} {c c' : Nat × va_E} : (w ++ c :: R).set w.length c' = w ++ c' :: R := by
  rw [List.set_append_right _ _ (Nat.le_refl _), Nat.sub_self]
  rfl
theorem zb_mv {w R S : va_W} {c : Nat × va_E} : (w ++ c :: R) ++ S = w ++ c :: (R ++ S) := by
  rw [List.append_assoc]
  rfl
theorem zb_put0 (hX : bC B z0 a0 X cc nL own d kc ks) {idx ci kf h : Nat} {ty : FieldType} {fs fs' : List Value} {v : Value} {w R : va_W} (hf : zFldP own idx ci kf ty) (dd : decode cc pc = .ok (.putfield idx, 3)) (hl0 : kf < fs.length) (hn1 : narrow ty v = v) (hfit : fits ty v = true) (hs : fs.set kf v = fs') (kk : ZB B z0 X P (pc + 3) lv st (w ++ (h, .inr (ci, fs')) :: R) k n) : ZB B z0 X P pc lv (v :: .ref h :: st) (w ++ (h, .inr (ci, fs)) :: R) k n := by
  subst hs
  exact zb_put hX hf dd w.length zb_h0 hl0 hn1 hfit zb_s0 kk
theorem zb_putF0 (hX : bC B z0 a0 X cc nL own d kc ks) (hin : X.2.2.2.2.2.2.2.2.1.name = "<init>") {idx ci kf h : Nat} {ty : FieldType} {fs fs' : List Value} {v : Value} {w R : va_W} (hf : zFldF own idx ci kf ty) (dd : decode cc pc = .ok (.putfield idx, 3)) (hl0 : kf < fs.length) (hn1 : narrow ty v = v) (hfit : fits ty v = true) (hs : fs.set kf v = fs') (kk : ZB B z0 X P (pc + 3) lv st (w ++ (h, .inr (ci, fs')) :: R) k n) : ZB B z0 X P pc lv (v :: .ref h :: st) (w ++ (h, .inr (ci, fs)) :: R) k n := by
  subst hs
  exact zb_putF hX hin hf dd w.length zb_h0 hl0 hn1 hfit zb_s0 kk
theorem zb_get0 (hX : bC B z0 a0 X cc nL own d kc ks) {idx ci kf h : Nat} {fs : List Value} {v : Value} {w R : va_W} (hf : zFld own idx ci kf) (dd : decode cc pc = .ok (.getfield idx, 3)) (hv : fs[kf]? = some v) (kk : ZB B z0 X P (pc + 3) lv (v :: st) (w ++ (h, .inr (ci, fs)) :: R) k n) : ZB B z0 X P pc lv (.ref h :: st) (w ++ (h, .inr (ci, fs)) :: R) k n :=
  zb_get hX hf dd w.length zb_h0 hv kk
theorem zb_newI (hX : bC B z0 a0 X cc nL own d kc ks) {N : Nat} {nn : Int32} {ws : va_W} (hn : ¬ nn < 0) (hN : nn.toNatClampNeg = N) (hby : N ≤ 100000) (hk : k + 1 ≤ kc) (hs : n + N ≤ ks) (dd : decode cc pc = .ok (.newarray .int, 2))
    (kk : ∀ q : Nat, ZB B z0 X P (pc + 2) lv (.ref q :: st) (ws ++ [(q, .inl (B.2 0, N, .inl (fun _ => 0)))]) (k + 1) (n + N)) : ZB B z0 X P pc lv (.int nn :: st) ws k n :=
  zb_newa hX (ty := .int) (t := 0) rfl rfl (fun _ _ h => h) zb_ai (fun _ => rfl) hn hN (by show N * 4 ≤ 536870912; omega) hk hs dd kk
theorem zb_newZ (hX : bC B z0 a0 X cc nL own d kc ks) {N : Nat} {nn : Int32} {ws : va_W} (hn : ¬ nn < 0) (hN : nn.toNatClampNeg = N) (hby : N ≤ 100000) (hk : k + 1 ≤ kc) (hs : n + N ≤ ks) (dd : decode cc pc = .ok (.newarray .boolean, 2))
    (kk : ∀ q : Nat, ZB B z0 X P (pc + 2) lv (.ref q :: st) (ws ++ [(q, .inl (B.2 1, N, .inl (fun _ => 0)))]) (k + 1) (n + N)) : ZB B z0 X P pc lv (.int nn :: st) ws k n :=
  zb_newa hX (ty := .boolean) (t := 1) rfl rfl (fun _ _ h => h) zb_az (fun _ => rfl) hn hN (by show N * 1 ≤ 536870912; omega) hk hs dd kk
theorem zb_newB (hX : bC B z0 a0 X cc nL own d kc ks) {N : Nat} {nn : Int32} {ws : va_W} (hn : ¬ nn < 0) (hN : nn.toNatClampNeg = N) (hby : N ≤ 100000) (hk : k + 1 ≤ kc) (hs : n + N ≤ ks) (dd : decode cc pc = .ok (.newarray .byte, 2))
    (kk : ∀ q : Nat, ZB B z0 X P (pc + 2) lv (.ref q :: st) (ws ++ [(q, .inl (B.2 2, N, .inl (fun _ => 0)))]) (k + 1) (n + N)) : ZB B z0 X P pc lv (.int nn :: st) ws k n :=
  zb_newa hX (ty := .byte) (t := 2) rfl rfl (fun _ _ h => h) zb_ab (fun _ => rfl) hn hN (by show N * 1 ≤ 536870912; omega) hk hs dd kk
theorem zb_newJ (hX : bC B z0 a0 X cc nL own d kc ks) {N : Nat} {nn : Int32} {ws : va_W} (hn : ¬ nn < 0) (hN : nn.toNatClampNeg = N) (hby : N ≤ 100000) (hk : k + 1 ≤ kc) (hs : n + N ≤ ks) (dd : decode cc pc = .ok (.newarray .long, 2))
    (kk : ∀ q : Nat, ZB B z0 X P (pc + 2) lv (.ref q :: st) (ws ++ [(q, .inl (B.2 3, N, .inr (.inl (fun _ => 0))))]) (k + 1) (n + N)) : ZB B z0 X P pc lv (.int nn :: st) ws k n :=
  zb_newa hX (ty := .long) (t := 3) rfl rfl (fun _ _ h => h) zb_al (fun _ => rfl) hn hN (by show N * 8 ≤ 536870912; omega) hk hs dd kk
/-- a value into the row that was made last -/
theorem zb_iastL (hX : bC B z0 a0 X cc nL own d kc ks) {a N : Nat} {f : Nat → Int32} {i x : Int32} {ws : va_W} (dd : decode cc pc = .ok (.iastore, 1)) (hi : vp_in i N) (kk : ZB B z0 X P (pc + 1) lv st (ws ++ [(a, .inl (B.2 0, N, .inl (upd f i.toNatClampNeg x)))]) k n) : ZB B z0 X P pc lv (.int x :: .int i :: .ref a :: st) (ws ++ [(a, .inl (B.2 0, N, .inl f))]) k n :=
  zb_iast hX dd ws.length zb_h0 hi zb_s0 kk
end ZB0
