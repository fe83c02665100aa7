theorem qi_m1 : Int32.ofInt (-1) = (-1) := by decide
theorem qi_0 : Int32.ofInt 0 = 0 := by decide
theorem qi_1 : Int32.ofInt 1 = 1 := by decide
theorem qi_2 : Int32.ofInt 2 = 2 := by decide
theorem qi_3 : Int32.ofInt 3 = 3 := by decide
theorem qi_4 : Int32.ofInt 4 = 4 := by decide
theorem qi_5 : Int32.ofInt 5 = 5 := by decide
theorem qb_m9 : (Int8.ofInt (-9)).toInt32 = (-9) := by decide
theorem qb_m2 : (Int8.ofInt (-2)).toInt32 = (-2) := by decide
theorem qb_6 : (Int8.ofInt 6).toInt32 = 6 := by decide
theorem qb_7 : (Int8.ofInt 7).toInt32 = 7 := by decide
theorem qb_8 : (Int8.ofInt 8).toInt32 = 8 := by decide
theorem qb_9 : (Int8.ofInt 9).toInt32 = 9 := by decide
theorem qb_10 : (Int8.ofInt 10).toInt32 = 10 := by decide
theorem qb_11 : (Int8.ofInt 11).toInt32 = 11 := by decide
theorem qb_12 : (Int8.ofInt 12).toInt32 = 12 := by decide
theorem qb_13 : (Int8.ofInt 13).toInt32 = 13 := by decide
theorem qb_14 : (Int8.ofInt 14).toInt32 = 14 := by decide
theorem qb_15 : (Int8.ofInt 15).toInt32 = 15 := by decide
theorem qb_16 : (Int8.ofInt 16).toInt32 = 16 := by decide
theorem qb_17 : (Int8.ofInt 17).toInt32 = 17 := by decide
theorem qb_18 : (Int8.ofInt 18).toInt32 = 18 := by decide
theorem qb_19 : (Int8.ofInt 19).toInt32 = 19 := by decide
theorem qb_20 : (Int8.ofInt 20).toInt32 = 20 := by decide
theorem qb_23 : (Int8.ofInt 23).toInt32 = 23 := by decide
theorem qb_24 : (Int8.ofInt 24).toInt32 = 24 := by decide
theorem qb_25 : (Int8.ofInt 25).toInt32 = 25 := by decide
theorem qb_26 : (Int8.ofInt 26).toInt32 = 26 := by decide
theorem qb_27 : (Int8.ofInt 27).toInt32 = 27 := by decide
theorem qb_28 : (Int8.ofInt 28).toInt32 = 28 := by decide
theorem qb_29 : (Int8.ofInt 29).toInt32 = 29 := by decide
theorem qb_30 : (Int8.ofInt 30).toInt32 = 30 := by decide
theorem qb_31 : (Int8.ofInt 31).toInt32 = 31 := by decide
theorem qb_32 : (Int8.ofInt 32).toInt32 = 32 := by decide
theorem qb_33 : (Int8.ofInt 33).toInt32 = 33 := by decide
theorem qb_34 : (Int8.ofInt 34).toInt32 = 34 := by decide
theorem qb_35 : (Int8.ofInt 35).toInt32 = 35 := by decide
theorem qb_36 : (Int8.ofInt 36).toInt32 = 36 := by decide
theorem qb_37 : (Int8.ofInt 37).toInt32 = 37 := by decide
theorem qb_38 : (Int8.ofInt 38).toInt32 = 38 := by decide
theorem qb_40 : (Int8.ofInt 40).toInt32 = 40 := by decide
theorem qb_41 : (Int8.ofInt 41).toInt32 = 41 := by decide
theorem qb_42 : (Int8.ofInt 42).toInt32 = 42 := by decide
theorem qb_43 : (Int8.ofInt 43).toInt32 = 43 := by decide
theorem qb_45 : (Int8.ofInt 45).toInt32 = 45 := by decide
theorem qb_47 : (Int8.ofInt 47).toInt32 = 47 := by decide
theorem qb_48 : (Int8.ofInt 48).toInt32 = 48 := by decide
theorem qb_50 : (Int8.ofInt 50).toInt32 = 50 := by decide
theorem qb_57 : (Int8.ofInt 57).toInt32 = 57 := by decide
theorem qb_59 : (Int8.ofInt 59).toInt32 = 59 := by decide
theorem qb_60 : (Int8.ofInt 60).toInt32 = 60 := by decide
theorem qb_61 : (Int8.ofInt 61).toInt32 = 61 := by decide
theorem qb_62 : (Int8.ofInt 62).toInt32 = 62 := by decide
theorem qb_63 : (Int8.ofInt 63).toInt32 = 63 := by decide
theorem qb_64 : (Int8.ofInt 64).toInt32 = 64 := by decide
theorem qb_72 : (Int8.ofInt 72).toInt32 = 72 := by decide
theorem qb_97 : (Int8.ofInt 97).toInt32 = 97 := by decide
theorem qb_99 : (Int8.ofInt 99).toInt32 = 99 := by decide
theorem qb_100 : (Int8.ofInt 100).toInt32 = 100 := by decide
theorem qb_122 : (Int8.ofInt 122).toInt32 = 122 := by decide
theorem qs_128 : (Int16.ofInt 128).toInt32 = 128 := by decide
theorem qs_138 : (Int16.ofInt 138).toInt32 = 138 := by decide
theorem qs_184 : (Int16.ofInt 184).toInt32 = 184 := by decide
theorem qs_200 : (Int16.ofInt 200).toInt32 = 200 := by decide
theorem qs_255 : (Int16.ofInt 255).toInt32 = 255 := by decide
theorem qs_256 : (Int16.ofInt 256).toInt32 = 256 := by decide
theorem qs_257 : (Int16.ofInt 257).toInt32 = 257 := by decide
theorem qs_258 : (Int16.ofInt 258).toInt32 = 258 := by decide
theorem qs_260 : (Int16.ofInt 260).toInt32 = 260 := by decide
theorem qs_261 : (Int16.ofInt 261).toInt32 = 261 := by decide
theorem qs_262 : (Int16.ofInt 262).toInt32 = 262 := by decide
theorem qs_680 : (Int16.ofInt 680).toInt32 = 680 := by decide
theorem qs_700 : (Int16.ofInt 700).toInt32 = 700 := by decide
theorem qs_701 : (Int16.ofInt 701).toInt32 = 701 := by decide
theorem qs_999 : (Int16.ofInt 999).toInt32 = 999 := by decide
theorem qs_1792 : (Int16.ofInt 1792).toInt32 = 1792 := by decide
theorem qs_9900 : (Int16.ofInt 9900).toInt32 = 9900 := by decide
theorem qs_9999 : (Int16.ofInt 9999).toInt32 = 9999 := by decide
theorem qs_12345 : (Int16.ofInt 12345).toInt32 = 12345 := by decide
theorem ql_0 : Int64.ofNat ((0 : Fin 2) : Nat) = 0 := rfl
theorem ql_1 : Int64.ofNat ((1 : Fin 2) : Nat) = 1 := rfl
/-! the words of lifted functions -/
def zFu : Nat := 100000
def zlet {α β : Type} (x : α) (f : α → β) : β := f x
def zg {ρ : Type} (b : Bool) (e : Option ρ) : Option ρ := if b then e else none
def zok (j : Int32) (n : Nat) : Bool := !decide (j < 0) && decide (j.toNatClampNeg < n)
def zbit (x : Int32) : Bool := decide (x = 0) || decide (x = 1)
def znz (x : Int32) : Bool := !decide (x = 0)
def znzL (x : Int64) : Bool := !decide (x = 0)
def zfix {σ ρ : Type} : Nat → ((σ → Option ρ) → σ → Option ρ) → σ → Option ρ
  | 0, _, _ => none
  | n + 1, B, s => B (zfix n B) s
def zcI {ρ : Type} (o : Option Int32) (E : Int32 → Option ρ) : Option ρ := match o with
  | some v => E v
  | none => none
def zcL {ρ : Type} (o : Option Int64) (E : Int64 → Option ρ) : Option ρ := match o with
  | some v => E v
  | none => none
def zcV {ρ : Type} (o : Option zM) (E : zM → Option ρ) : Option ρ := match o with
  | some v => E v
  | none => none
def zcIM {ρ : Type} (o : Option (Int32 × zM)) (E : Int32 → zM → Option ρ) : Option ρ := match o with
  | some v => E v.1 v.2
  | none => none
def zcLM {ρ : Type} (o : Option (Int64 × zM)) (E : Int64 → zM → Option ρ) : Option ρ := match o with
  | some v => E v.1 v.2
  | none => none
def zisPl (p : Nat) : Bool := p == 5 || p == 26
def zgP {ρ : Type} (o : Option Nat) (E : Nat → Option ρ) : Option ρ := match o with
  | some p => if zisPl p then E p else none
  | none => none
def zgC {ρ : Type} (o : Option Nat) (j : Nat) (e : Option ρ) : Option ρ := match o with
  | some p => if p == j then e else none
  | none => none
theorem zisPl_of {p : Nat} (h : zisPl p = true) : isPl p := by
  simp only [zisPl, Bool.or_eq_true, beq_iff_eq] at h; exact h
theorem zgd {ρ : Type} {b : Bool} {e : Option ρ} {r : ρ} (h : zg b e = some r) : b = true ∧ e = some r := by
  unfold zg at h
  cases b with
  | true => exact ⟨rfl, h⟩
  | false => cases h
theorem zok_in {j : Int32} {n : Nat} (h : zok j n = true) : vp_in j n := by
  unfold zok at h
  simp only [Bool.and_eq_true, Bool.not_eq_true', decide_eq_false_iff_not, decide_eq_true_eq] at h
  exact fun z => z.elim h.1 (fun q => by omega)
theorem zbit_or {x : Int32} (h : zbit x = true) : x = 0 ∨ x = 1 := by
  unfold zbit at h
  simpa using h
theorem znz_ne {x : Int32} (h : znz x = true) : ¬ x = 0 := by
  unfold znz at h
  simpa using h
theorem znzL_ne {x : Int64} (h : znzL x = true) : ¬ x = 0 := by
  unfold znzL at h
  simpa using h
theorem zcI_of {ρ : Type} {o : Option Int32} {E : Int32 → Option ρ} {r : ρ} (h : zcI o E = some r) : ∃ v, o = some v ∧ E v = some r := by
  cases o with
  | none => cases h
  | some v => exact ⟨v, rfl, h⟩
theorem zcL_of {ρ : Type} {o : Option Int64} {E : Int64 → Option ρ} {r : ρ} (h : zcL o E = some r) : ∃ v, o = some v ∧ E v = some r := by
  cases o with
  | none => cases h
  | some v => exact ⟨v, rfl, h⟩
theorem zcV_of {ρ : Type} {o : Option zM} {E : zM → Option ρ} {r : ρ} (h : zcV o E = some r) : ∃ v, o = some v ∧ E v = some r := by
  cases o with
  | none => cases h
  | some v => exact ⟨v, rfl, h⟩
theorem zcIM_of {ρ : Type} {o : Option (Int32 × zM)} {E : Int32 → zM → Option ρ} {r : ρ} (h : zcIM o E = some r) : ∃ v M', o = some (v, M') ∧ E v M' = some r := by
  cases o with
  | none => cases h
  | some v => exact ⟨v.1, v.2, rfl, h⟩
theorem zcLM_of {ρ : Type} {o : Option (Int64 × zM)} {E : Int64 → zM → Option ρ} {r : ρ} (h : zcLM o E = some r) : ∃ v M', o = some (v, M') ∧ E v M' = some r := by
  cases o with
  | none => cases h
  | some v => exact ⟨v.1, v.2, rfl, h⟩
theorem zgP_of {ρ : Type} {o : Option Nat} {E : Nat → Option ρ} {r : ρ} (h : zgP o E = some r) : ∃ p, o = some p ∧ isPl p ∧ E p = some r := by
  cases o with
  | none => cases h
  | some p =>
    unfold zgP at h
    dsimp only at h
    by_cases hp : zisPl p = true
    · rw [if_pos hp] at h
      exact ⟨p, rfl, zisPl_of hp, h⟩
    · rw [if_neg hp] at h; cases h
theorem zgC_of {ρ : Type} {o : Option Nat} {j : Nat} {e : Option ρ} {r : ρ} (h : zgC o j e = some r) : o = some j ∧ e = some r := by
  cases o with
  | none => cases h
  | some p =>
    unfold zgC at h
    dsimp only at h
    by_cases hp : (p == j) = true
    · rw [if_pos hp] at h
      exact ⟨by rw [beq_iff_eq.mp hp], h⟩
    · rw [if_neg hp] at h; cases h
/-- the answer that a lifted function names -/
def zQi (res : Int32 × zM) : Option Value → zM → Prop := Qi (fun v M' => (v, M') = res)
def zQl (res : Int64 × zM) : Option Value → zM → Prop := Ql (fun v M' => (v, M') = res)
def zQv (res : zM) : Option Value → zM → Prop := Qv (fun M' => M' = res)
def zQip (M : zM) (res : Int32) : Option Value → zM → Prop := Qi (fun v M' => v = res ∧ M' = M)
def zQlp (M : zM) (res : Int64) : Option Value → zM → Prop := Ql (fun v M' => v = res ∧ M' = M)
theorem zend_i {x : Int32} {M : zM} {res : Int32 × zM} (h : some (x, M) = some res) : zQi res (some (.int x)) M := ⟨x, rfl, Option.some.inj h⟩
theorem zend_l {x : Int64} {M : zM} {res : Int64 × zM} (h : some (x, M) = some res) : zQl res (some (.long x)) M := ⟨x, rfl, Option.some.inj h⟩
theorem zend_v {M : zM} {res : zM} (h : some M = some res) : zQv res none M := ⟨rfl, Option.some.inj h⟩
theorem zend_ip {x : Int32} {M : zM} {res : Int32} (h : some x = some res) : zQip M res (some (.int x)) M := ⟨x, rfl, Option.some.inj h, rfl⟩
theorem zend_lp {x : Int64} {M : zM} {res : Int64} (h : some x = some res) : zQlp M res (some (.long x)) M := ⟨x, rfl, Option.some.inj h, rfl⟩
def zmask : List Bool → List (Option Value) → List (Option Value)
  | b :: bs, o :: os => (if b then o else none) :: zmask bs os
  | _, _ => []
theorem zmask_at {ms : List Bool} {lv : List (Option Value)} : ∀ {i : Nat} {v : Value}, (zmask ms lv)[i]? = some (some v) → lv[i]? = some (some v) := by
  induction ms generalizing lv with
  | nil => intro i v h; simp [zmask] at h
  | cons b bs ih =>
    intro i v h
    cases lv with
    | nil => simp [zmask] at h
    | cons o os =>
      cases i with
      | zero =>
        cases b
        · simp [zmask] at h
        · simpa [zmask] using h
      | succ i => exact ih (lv := os) (by simpa [zmask] using h)
theorem zsw_out {x : Int32} {lo hi : Int} (h : ∀ k : Int, lo ≤ k → k ≤ hi → ¬ x = Int32.ofInt k) : x.toInt < lo ∨ hi < x.toInt := by
  by_cases h1 : x.toInt < lo
  · exact Or.inl h1
  · by_cases h2 : hi < x.toInt
    · exact Or.inr h2
    · exact absurd (by rw [Int32.ofInt_toInt]) (h x.toInt (by omega) (by omega))
section ZE
variable {G : zG} {X : zX} {Q : Option Value → zM → Prop} {cc : ByteArray} {nL dd pc : Nat} {own : String} {rt : Option FieldType} {lv : List (Option Value)} {st : List Value} {M : zM}
theorem z_mask (ms : List Bool) (kk : Z G X Q pc (zmask ms lv) st M) : Z G X Q pc lv st M := fun H locs ls hl hR hS => kk H locs ls ⟨hl.1, hl.2.1, fun i v h => hl.2.2 i v (zmask_at h)⟩ hR hS
theorem z_mem {ρ : Type} {E : zM → Option ρ} {r : ρ} (h : zlet M E = some r) (kk : ∀ M1, E M1 = some r → Z G X Q pc lv st M1) : Z G X Q pc lv st M := kk M h
theorem z_topi {ρ : Type} {x : Int32} {E : Int32 → Option ρ} {r : ρ} (h : zlet x E = some r) (kk : ∀ y, E y = some r → Z G X Q pc lv (.int y :: st) M) : Z G X Q pc lv (.int x :: st) M := kk x h
theorem z_topl {ρ : Type} {x : Int64} {E : Int64 → Option ρ} {r : ρ} (h : zlet x E = some r) (kk : ∀ y, E y = some r → Z G X Q pc lv (.long y :: st) M) : Z G X Q pc lv (.long x :: st) M := kk x h
theorem z_get142 (hX : zC G X cc nL own rt dd) {idx : Nat} (d : decode cc pc = .ok (.getstatic idx, 3)) (hl : (own, idx, "ColdFeet", "SETTING_WITHOUT", "[I", "ColdFeet") ∈ zNF) (n : Nat) (hn : pc + 3 = n) (kk : Z G X Q n lv (.ref 142 :: st) M) : Z G X Q pc lv st M := by
  obtain ⟨p, l, e, R, s, m, args, below, meth, c⟩ := X
  subst hn
  intro H locs ls hl' hR hS
  obtain ⟨hx, hb, hml, hown, hts, hK, hI, hlk, hrt, hRm, hN, hZ⟩ := hX
  exact va_getsN hx hb hZ.1.1 hS hown (va_Nw.use rfl (hN.1 _ hl)) (fun _ h => h) d (kk H locs ls hl' hR hS)
theorem z_get143 (hX : zC G X cc nL own rt dd) {idx : Nat} (d : decode cc pc = .ok (.getstatic idx, 3)) (hl : (own, idx, "ColdFeet", "SETTING_MOST", "[I", "ColdFeet") ∈ zNF) (n : Nat) (hn : pc + 3 = n) (kk : Z G X Q n lv (.ref 143 :: st) M) : Z G X Q pc lv st M := by
  obtain ⟨p, l, e, R, s, m, args, below, meth, c⟩ := X
  subst hn
  intro H locs ls hl' hR hS
  obtain ⟨hx, hb, hml, hown, hts, hK, hI, hlk, hrt, hRm, hN, hZ⟩ := hX
  exact va_getsN hx hb hZ.2.1.1 hS hown (va_Nw.use rfl (hN.1 _ hl)) (fun _ h => h) d (kk H locs ls hl' hR hS)
theorem z_get144 (hX : zC G X cc nL own rt dd) {idx : Nat} (d : decode cc pc = .ok (.getstatic idx, 3)) (hl : Cond.fieldLink own idx "ColdFeet$Token" "WORDS" "[I" ∈ zWS) (n : Nat) (hn : pc + 3 = n) (kk : Z G X Q n lv (.ref 144 :: st) M) : Z G X Q pc lv st M := by
  obtain ⟨p, l, e, R, s, m, args, below, meth, c⟩ := X
  subst hn
  intro H locs ls hl' hR hS
  obtain ⟨hx, hb, hml, hown, hts, hK, hI, hlk, hrt, hRm, hN, hZ⟩ := hX
  exact va_gets hx hb hZ.2.2.1.1 hS hown (hts _ hl) (fun _ h => h) d (kk H locs ls hl' hR hS)
theorem z_sld142 (hX : zC G X cc nL own rt dd) {j : Int32} (d : decode cc pc = .ok (.iaload, 1)) (hin : vp_in j 5) (n : Nat) (hn : pc + 1 = n) (kk : Z G X Q n lv (.int (zc0 j.toNatClampNeg) :: st) M) : Z G X Q pc lv (.int j :: .ref 142 :: st) M := by
  obtain ⟨p, l, e, R, s, m, args, below, meth, c⟩ := X
  subst hn
  intro H locs ls hl' hR hS
  obtain ⟨hx, hb, hml, hown, hts, hK, hI, hlk, hrt, hRm, hN, hZ⟩ := hX
  exact va_ti hx hb hZ.1.2 hS hin rfl d (kk H locs ls hl' hR hS)
theorem z_slen142 (hX : zC G X cc nL own rt dd) (d : decode cc pc = .ok (.arraylength, 1)) (n : Nat) (hn : pc + 1 = n) (kk : Z G X Q n lv (.int 5 :: st) M) : Z G X Q pc lv (.ref 142 :: st) M := by
  obtain ⟨p, l, e, R, s, m, args, below, meth, c⟩ := X
  subst hn
  intro H locs ls hl' hR hS
  obtain ⟨hx, hb, hml, hown, hts, hK, hI, hlk, hrt, hRm, hN, hZ⟩ := hX
  exact va_tlen hx hb hZ.1.2 hS rfl d (kk H locs ls hl' hR hS)
theorem z_sld143 (hX : zC G X cc nL own rt dd) {j : Int32} (d : decode cc pc = .ok (.iaload, 1)) (hin : vp_in j 5) (n : Nat) (hn : pc + 1 = n) (kk : Z G X Q n lv (.int (zc1 j.toNatClampNeg) :: st) M) : Z G X Q pc lv (.int j :: .ref 143 :: st) M := by
  obtain ⟨p, l, e, R, s, m, args, below, meth, c⟩ := X
  subst hn
  intro H locs ls hl' hR hS
  obtain ⟨hx, hb, hml, hown, hts, hK, hI, hlk, hrt, hRm, hN, hZ⟩ := hX
  exact va_ti hx hb hZ.2.1.2 hS hin rfl d (kk H locs ls hl' hR hS)
theorem z_slen143 (hX : zC G X cc nL own rt dd) (d : decode cc pc = .ok (.arraylength, 1)) (n : Nat) (hn : pc + 1 = n) (kk : Z G X Q n lv (.int 5 :: st) M) : Z G X Q pc lv (.ref 143 :: st) M := by
  obtain ⟨p, l, e, R, s, m, args, below, meth, c⟩ := X
  subst hn
  intro H locs ls hl' hR hS
  obtain ⟨hx, hb, hml, hown, hts, hK, hI, hlk, hrt, hRm, hN, hZ⟩ := hX
  exact va_tlen hx hb hZ.2.1.2 hS rfl d (kk H locs ls hl' hR hS)
theorem z_sld144 (hX : zC G X cc nL own rt dd) {j : Int32} (d : decode cc pc = .ok (.iaload, 1)) (hin : vp_in j 22) (n : Nat) (hn : pc + 1 = n) (kk : Z G X Q n lv (.int (zc2 j.toNatClampNeg) :: st) M) : Z G X Q pc lv (.int j :: .ref 144 :: st) M := by
  obtain ⟨p, l, e, R, s, m, args, below, meth, c⟩ := X
  subst hn
  intro H locs ls hl' hR hS
  obtain ⟨hx, hb, hml, hown, hts, hK, hI, hlk, hrt, hRm, hN, hZ⟩ := hX
  exact va_ti hx hb hZ.2.2.1.2 hS hin rfl d (kk H locs ls hl' hR hS)
theorem z_slen144 (hX : zC G X cc nL own rt dd) (d : decode cc pc = .ok (.arraylength, 1)) (n : Nat) (hn : pc + 1 = n) (kk : Z G X Q n lv (.int 22 :: st) M) : Z G X Q pc lv (.ref 144 :: st) M := by
  obtain ⟨p, l, e, R, s, m, args, below, meth, c⟩ := X
  subst hn
  intro H locs ls hl' hR hS
  obtain ⟨hx, hb, hml, hown, hts, hK, hI, hlk, hrt, hRm, hN, hZ⟩ := hX
  exact va_tlen hx hb hZ.2.2.1.2 hS rfl d (kk H locs ls hl' hR hS)
theorem z_min_w : Cond.static Lib.Math.min.name ∈ zWS ∧ Cond.initialized "java/lang/Math" ∈ zWS ∧ Cond.code Lib.Math.min.name Lib.Math.min.code 2 (some .int) ∈ zWS := ⟨zin (tb3 (List.mem_of_getElem? (i := 9) (by decide +kernel))) rfl, zin (tb1 (List.mem_of_getElem? (i := 12) (by decide +kernel))) rfl, zin (tb3 (List.mem_of_getElem? (i := 10) (by decide +kernel))) rfl⟩
theorem z_min (hX : zC G X cc nL own rt dd) {idx : Nat} {x y : Int32} (d : decode cc pc = .ok (.invokestatic idx, 3)) (hl : Cond.methodLink own idx Lib.Math.min.name ∈ zWS) (hdd : 1 ≤ dd) (hW : (st.map fun v => v.category).sum ≤ 8) (n : Nat) (hn : pc + 3 = n) (kk : Z G X Q n lv (.int (if y < x then y else x) :: st) M) : Z G X Q pc lv (.int y :: .int x :: st) M := by
  obtain ⟨p, l, e, R, s, m, args, below, meth, c⟩ := X
  subst hn
  intro H locs ls hl' hR hS
  obtain ⟨hx, hb, hml, hown, hts, hK, hI, hlk, hrt, hRm, hN, hZ⟩ := hX
  dsimp only at hRm
  subst hRm
  exact va_mmin hx hb hl'.1.symm hown (hts _ hl) (hts _ z_min_w.1) (hts _ z_min_w.2.1) (hts _ z_min_w.2.2) hdd (by rw [z_cat]; show _ + 13 ≤ 40 * dd; omega) (Nat.zero_le _) (Nat.zero_le _) d (kk H locs ls hl' hR hS)
theorem z_max_w : Cond.static Lib.Math.max.name ∈ zWS ∧ Cond.initialized "java/lang/Math" ∈ zWS ∧ Cond.code Lib.Math.max.name Lib.Math.max.code 2 (some .int) ∈ zWS := ⟨zin (tb3 (List.mem_of_getElem? (i := 126) (by decide +kernel))) rfl, zin (tb1 (List.mem_of_getElem? (i := 12) (by decide +kernel))) rfl, zin (tb3 (List.mem_of_getElem? (i := 127) (by decide +kernel))) rfl⟩
theorem z_max (hX : zC G X cc nL own rt dd) {idx : Nat} {x y : Int32} (d : decode cc pc = .ok (.invokestatic idx, 3)) (hl : Cond.methodLink own idx Lib.Math.max.name ∈ zWS) (hdd : 1 ≤ dd) (hW : (st.map fun v => v.category).sum ≤ 8) (n : Nat) (hn : pc + 3 = n) (kk : Z G X Q n lv (.int (if x < y then y else x) :: st) M) : Z G X Q pc lv (.int y :: .int x :: st) M := by
  obtain ⟨p, l, e, R, s, m, args, below, meth, c⟩ := X
  subst hn
  intro H locs ls hl' hR hS
  obtain ⟨hx, hb, hml, hown, hts, hK, hI, hlk, hrt, hRm, hN, hZ⟩ := hX
  dsimp only at hRm
  subst hRm
  exact va_mmax hx hb hl'.1.symm hown (hts _ hl) (hts _ z_max_w.1) (hts _ z_max_w.2.1) (hts _ z_max_w.2.2) hdd (by rw [z_cat]; show _ + 13 ≤ 40 * dd; omega) (Nat.zero_le _) (Nat.zero_le _) d (kk H locs ls hl' hR hS)
theorem z_minL_w : Cond.static Lib.MathLoose.min_long.x ∈ zWS ∧ Cond.initialized "java/lang/Math" ∈ zWS ∧ Cond.code Lib.MathLoose.min_long.x Lib.MathLoose.min_long.code 4 (some .long) ∈ zWS := ⟨zin (tb4 (List.mem_of_getElem? (i := 72) (by decide +kernel))) rfl, zin (tb1 (List.mem_of_getElem? (i := 12) (by decide +kernel))) rfl, zin (tb4 (List.mem_of_getElem? (i := 73) (by decide +kernel))) rfl⟩
theorem z_minL (hX : zC G X cc nL own rt dd) {idx : Nat} {x y : Int64} (d : decode cc pc = .ok (.invokestatic idx, 3)) (hl : Cond.methodLink own idx Lib.MathLoose.min_long.x ∈ zWS) (hdd : 1 ≤ dd) (hW : (st.map fun v => v.category).sum ≤ 8) (n : Nat) (hn : pc + 3 = n) (kk : Z G X Q n lv (.long (if y < x then y else x) :: st) M) : Z G X Q pc lv (.long y :: .long x :: st) M := by
  obtain ⟨p, l, e, R, s, m, args, below, meth, c⟩ := X
  subst hn
  intro H locs ls hl' hR hS
  obtain ⟨hx, hb, hml, hown, hts, hK, hI, hlk, hrt, hRm, hN, hZ⟩ := hX
  dsimp only at hRm
  subst hRm
  exact va_mmin_long hx hb hl'.1.symm hown (hts _ hl) (hts _ z_minL_w.1) (hts _ z_minL_w.2.1) (hts _ z_minL_w.2.2) hdd (by rw [z_cat]; show _ + 15 ≤ 40 * dd; omega) (Nat.zero_le _) (Nat.zero_le _) d (kk H locs ls hl' hR hS)
theorem z_maxL_w : Cond.static Lib.MathLoose.max_long.x ∈ zWS ∧ Cond.initialized "java/lang/Math" ∈ zWS ∧ Cond.code Lib.MathLoose.max_long.x Lib.MathLoose.max_long.code 4 (some .long) ∈ zWS := ⟨zin (tb4 (List.mem_of_getElem? (i := 75) (by decide +kernel))) rfl, zin (tb1 (List.mem_of_getElem? (i := 12) (by decide +kernel))) rfl, zin (tb4 (List.mem_of_getElem? (i := 76) (by decide +kernel))) rfl⟩
theorem z_maxL (hX : zC G X cc nL own rt dd) {idx : Nat} {x y : Int64} (d : decode cc pc = .ok (.invokestatic idx, 3)) (hl : Cond.methodLink own idx Lib.MathLoose.max_long.x ∈ zWS) (hdd : 1 ≤ dd) (hW : (st.map fun v => v.category).sum ≤ 8) (n : Nat) (hn : pc + 3 = n) (kk : Z G X Q n lv (.long (if y < x then x else y) :: st) M) : Z G X Q pc lv (.long y :: .long x :: st) M := by
  obtain ⟨p, l, e, R, s, m, args, below, meth, c⟩ := X
  subst hn
  intro H locs ls hl' hR hS
  obtain ⟨hx, hb, hml, hown, hts, hK, hI, hlk, hrt, hRm, hN, hZ⟩ := hX
  dsimp only at hRm
  subst hRm
  exact va_mmax_long hx hb hl'.1.symm hown (hts _ hl) (hts _ z_maxL_w.1) (hts _ z_maxL_w.2.1) (hts _ z_maxL_w.2.2) hdd (by rw [z_cat]; show _ + 15 ≤ 40 * dd; omega) (Nat.zero_le _) (Nat.zero_le _) d (kk H locs ls hl' hR hS)
theorem z_abs_w : Cond.static Lib.MathLoose.abs_long.x ∈ zWS ∧ Cond.initialized "java/lang/Math" ∈ zWS ∧ Cond.code Lib.MathLoose.abs_long.x Lib.MathLoose.abs_long.code 2 (some .long) ∈ zWS := ⟨zin (tb7 (List.mem_of_getElem? (i := 87) (by decide +kernel))) rfl, zin (tb1 (List.mem_of_getElem? (i := 12) (by decide +kernel))) rfl, zin (tb7 (List.mem_of_getElem? (i := 88) (by decide +kernel))) rfl⟩
theorem z_absL (hX : zC G X cc nL own rt dd) {idx : Nat} {x : Int64} (d : decode cc pc = .ok (.invokestatic idx, 3)) (hl : Cond.methodLink own idx Lib.MathLoose.abs_long.x ∈ zWS) (hdd : 1 ≤ dd) (hW : (st.map fun v => v.category).sum ≤ 8) (n : Nat) (hn : pc + 3 = n) (kk : Z G X Q n lv (.long (if 0 < x then x else -x) :: st) M) : Z G X Q pc lv (.long x :: st) M := by
  obtain ⟨p, l, e, R, s, m, args, below, meth, c⟩ := X
  subst hn
  intro H locs ls hl' hR hS
  obtain ⟨hx, hb, hml, hown, hts, hK, hI, hlk, hrt, hRm, hN, hZ⟩ := hX
  dsimp only at hRm
  subst hRm
  exact va_mabs_long hx hb hl'.1.symm hown (hts _ hl) (hts _ z_abs_w.1) (hts _ z_abs_w.2.1) (hts _ z_abs_w.2.2) hdd (by rw [z_cat]; show _ + 13 ≤ 40 * dd; omega) (Nat.zero_le _) (Nat.zero_le _) d (kk H locs ls hl' hR hS)
/-- System.arraycopy of ints -/
def zcp (M : zM) (a b : Nat) (sp dp n : Nat) : zM := (fun i j => if i = b then va_cpy (M.1 a) (M.1 b) sp dp n j else M.1 i j, M.2.1, M.2.2)
theorem zcell_cp {a b sp dp n i : Nat} (h : i ≠ b) : zcell G (zcp M a b sp dp n) i = zcell G M i := by
  have e : (zcp M a b sp dp n).1 i = M.1 i := by funext j; simp [zcp, h]
  unfold zcell
  cases zs i with
  | inl o =>
    show Sum.inr (o.1, zobj G (zcp M a b sp dp n) i o.2.1 o.2.2) = Sum.inr (o.1, zobj G M i o.2.1 o.2.2)
    congr 2
    unfold zobj zfv
    simp only [e]
    rfl
  | inr o => simp only [e]; rfl
def zcpk (sp dp n : Int32) (n0 n1 : Nat) : Bool := !decide (sp < 0) && !decide (dp < 0) && !decide (n < 0) && decide (sp.toNatClampNeg + n.toNatClampNeg ≤ n0) && decide (dp.toNatClampNeg + n.toNatClampNeg ≤ n1)
theorem z_cp_w : Cond.native arraycopyName ∈ zWS ∧ Cond.static arraycopyName ∈ zWS ∧ Cond.initialized "java/lang/System" ∈ zWS := ⟨zin (tb1 (List.mem_of_getElem? (i := 82) (by decide +kernel))) rfl, zin (tb1 (List.mem_of_getElem? (i := 81) (by decide +kernel))) rfl, zin (tb1 (List.mem_of_getElem? (i := 4) (by decide +kernel))) rfl⟩
theorem z_copy (hX : zC G X cc nL own rt dd) {idx a b n0 n1 : Nat} {sp dp k : Int32} (d : decode cc pc = .ok (.invokestatic idx, 3)) (hl : Cond.methodLink own idx arraycopyName ∈ zWS) (hdd : 1 ≤ dd) (ha : zs a = .inr (0, n0)) (hb0 : zs b = .inr (0, n1)) (h0 : 0 < n0) (h1 : 0 < n1) (hk : zcpk sp dp k n0 n1 = true) (hW : (st.map fun v => v.category).sum ≤ 8) (n : Nat) (hn : pc + 3 = n) (kk : Z G X Q n lv st (zcp M a b sp.toNatClampNeg dp.toNatClampNeg k.toNatClampNeg)) : Z G X Q pc lv (.int k :: .int dp :: .ref b :: .int sp :: .ref a :: st) M := by
  obtain ⟨p, l, e, R, s, m, args, below, meth, c⟩ := X
  subst hn
  intro H locs ls hl' hR hS
  obtain ⟨hx, hb, hml, hown, hts, hK, hI, hlk, hrt, hRm, hN, hZ⟩ := hX
  dsimp only at hRm
  subst hRm
  unfold zcpk at hk
  simp only [Bool.and_eq_true, Bool.not_eq_true', decide_eq_false_iff_not, decide_eq_true_eq] at hk
  obtain ⟨⟨⟨⟨k1, k2⟩, k3⟩, k4⟩, k5⟩ := hk
  have hia := zs_ltA ha h0
  have hib := zs_ltA hb0 h1
  have hset := zW_set (G := G) (M := M) (M' := zcp M a b sp.toNatClampNeg dp.toNatClampNeg k.toNatClampNeg) hib (e := .inl (G.2.1 0, n1, .inl (va_cpy (M.1 a) (M.1 b) sp.toNatClampNeg dp.toNatClampNeg k.toNatClampNeg))) (by rw [zcell_i hb0 (by decide)]; congr 3; congr 1; funext j; simp [zcp]) (fun _ h => zcell_cp h)
  refine va_copyi (ty := .int) hx hb hl'.1.symm hown (hts _ hl) (hts _ z_cp_w.1) (hts _ z_cp_w.2.1) (hts _ z_cp_w.2.2) hK hR (zW_D hI M) hS a b 0 0 (by rw [zW_at G M hia, zcell_i ha (by decide)]) (by rw [zW_at G M hib, zcell_i hb0 (by decide)]) rfl rfl rfl k1 k2 k3 k4 k5 (fun _ _ => rfl) hdd (by rw [z_cat]; show _ + (7 + 11) ≤ 40 * dd; omega) d (fun H1 locs1 hP1 _ hS1 => ?_)
  rw [hset] at hP1
  exact kk H1 locs1 ls hl' hP1 hS1
/-- a reference field that changes and that another class of the nest names -/
theorem z_getRN (hX : zC G X cc nL own rt dd) {w p : Nat} (hw : isW w) {idx : Nat} (d : decode cc pc = .ok (.getfield idx, 3)) (hl : (own, idx, "ColdFeet$World", "plan", "LColdFeet$Plan;", "ColdFeet") ∈ zNF) (hm : M.2.2 w 0 = some p) (n : Nat) (hn : pc + 3 = n) (kk : Z G X Q n lv (.ref p :: st) M) : Z G X Q pc lv (.ref w :: st) M := by
  obtain ⟨pp, l, e, R, s, m, args, below, meth, c⟩ := X
  subst hn
  intro H locs ls hl' hR hS
  obtain ⟨hx, hb, hml, hown, hts, hK, hI, hlk, hrt, hRm, hN, hZ⟩ := hX
  have hs : zs w = _ := zsW0 hw
  refine va_getN hx hb hts uX8 hown hK hR w (by rw [zW_at G M (zs_lt hs), zcell_o hs]) (show vwCl[7]? = some (RX8, TX8, 16) from rfl) 0 (by decide) (va_Nw.use rfl (hN.1 _ hl)) (fun _ h => h) (v := zrv G.2.2 (.ref p)) ?_ d (kk H locs ls hl' hR hS)
  rw [zobj_at (by decide)]
  show some (va_rf ((M.2.2 w 0).map G.2.2)) = _
  rw [hm]
  rfl
end ZE
theorem lX3_62 : Cond.methodLink RX3 62 arraycopyName ∈ zWS := zin (tb1 (List.mem_of_getElem? (i := 80) (by decide +kernel))) rfl
theorem lX7_25 : Cond.methodLink RX7 25 Lib.Math.min.name ∈ zWS := zin (tb3 (List.mem_of_getElem? (i := 8) (by decide +kernel))) rfl
theorem lX5_217 : Cond.methodLink RX5 217 Lib.Math.max.name ∈ zWS := zin (tb3 (List.mem_of_getElem? (i := 125) (by decide +kernel))) rfl
theorem lX9_250 : Cond.methodLink RX9 250 Lib.Math.min.name ∈ zWS := zin (tb4 (List.mem_of_getElem? (i := 3) (by decide +kernel))) rfl
theorem lX8_181 : Cond.methodLink RX8 181 Lib.Math.min.name ∈ zWS := zin (tb4 (List.mem_of_getElem? (i := 68) (by decide +kernel))) rfl
theorem lX8_191 : Cond.methodLink RX8 191 Lib.MathLoose.min_long.x ∈ zWS := zin (tb4 (List.mem_of_getElem? (i := 71) (by decide +kernel))) rfl
theorem lX8_194 : Cond.methodLink RX8 194 Lib.MathLoose.max_long.x ∈ zWS := zin (tb4 (List.mem_of_getElem? (i := 74) (by decide +kernel))) rfl
theorem lX8_197 : Cond.methodLink RX8 197 Lib.Math.max.name ∈ zWS := zin (tb4 (List.mem_of_getElem? (i := 77) (by decide +kernel))) rfl
theorem lX8_74 : Cond.methodLink RX8 74 arraycopyName ∈ zWS := zin (tb4 (List.mem_of_getElem? (i := 94) (by decide +kernel))) rfl
theorem lX2_30 : Cond.methodLink RX2 30 Lib.Math.min.name ∈ zWS := zin (tb4 (List.mem_of_getElem? (i := 153) (by decide +kernel))) rfl
theorem lX2_55 : Cond.methodLink RX2 55 Lib.Math.max.name ∈ zWS := zin (tb4 (List.mem_of_getElem? (i := 165) (by decide +kernel))) rfl
theorem lX9_318 : Cond.methodLink RX9 318 arraycopyName ∈ zWS := zin (tb4 (List.mem_of_getElem? (i := 186) (by decide +kernel))) rfl
theorem lX4_39 : Cond.methodLink RX4 39 Lib.Math.min.name ∈ zWS := zin (tb5 (List.mem_of_getElem? (i := 8) (by decide +kernel))) rfl
theorem lX4_45 : Cond.methodLink RX4 45 Lib.Math.max.name ∈ zWS := zin (tb5 (List.mem_of_getElem? (i := 9) (by decide +kernel))) rfl
theorem lX10_321 : Cond.methodLink RX10 321 Lib.MathLoose.abs_long.x ∈ zWS := zin (tb7 (List.mem_of_getElem? (i := 86) (by decide +kernel))) rfl
theorem lX10_389 : Cond.methodLink RX10 389 Lib.Math.min.name ∈ zWS := zin (tb7 (List.mem_of_getElem? (i := 115) (by decide +kernel))) rfl
theorem lX10_350 : Cond.methodLink RX10 350 Lib.MathLoose.min_long.x ∈ zWS := zin (tb7 (List.mem_of_getElem? (i := 148) (by decide +kernel))) rfl
theorem lX10_354 : Cond.methodLink RX10 354 Lib.MathLoose.max_long.x ∈ zWS := zin (tb7 (List.mem_of_getElem? (i := 149) (by decide +kernel))) rfl
theorem lX10_391 : Cond.methodLink RX10 391 Lib.Math.max.name ∈ zWS := zin (tb7 (List.mem_of_getElem? (i := 160) (by decide +kernel))) rfl
theorem isW_55 : isW 55 := by unfold isW; decide
theorem isW_65 : isW 65 := by unfold isW; decide
theorem isW_75 : isW 75 := by unfold isW; decide
theorem plX0 : plainName RX0 = true := by decide +kernel
theorem plX1 : plainName RX1 = true := by decide +kernel
theorem plX2 : plainName RX2 = true := by decide +kernel
theorem plX3 : plainName RX3 = true := by decide +kernel
theorem plX4 : plainName RX4 = true := by decide +kernel
theorem plX5 : plainName RX5 = true := by decide +kernel
theorem plX7 : plainName RX7 = true := by decide +kernel
theorem plX8 : plainName RX8 = true := by decide +kernel
theorem plX9 : plainName RX9 = true := by decide +kernel
theorem plX10 : plainName RX10 = true := by decide +kernel
theorem zlk_out (ks : List Int32) {ps : List (Int × Int)} {d : Int} {x : Int32} (hk : ps.map (fun q => q.1) = ks.map Int32.toInt) (h : ∀ k ∈ ks, ¬ x = k) : Op.lookupswitch.offset ps d x.toInt = d := by
  induction ks generalizing ps with
  | nil =>
    cases ps with
    | nil => rfl
    | cons a r => simp at hk
  | cons k ks ih =>
    cases ps with
    | nil => simp at hk
    | cons a r =>
      obtain ⟨a, o⟩ := a
      simp only [List.map_cons, List.cons.injEq] at hk
      rw [Op.lookupswitch.offset_cons, if_neg]
      · exact ih hk.2 (fun k hk => h k (List.mem_cons_of_mem _ hk))
      · rw [hk.1]
        intro e
        exact h k List.mem_cons_self (Int32.toInt_inj.mp e).symm
