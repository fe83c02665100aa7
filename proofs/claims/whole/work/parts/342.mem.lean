/-! ===== the memory that the constructors leave ===== -/
def m0I (F : Nat → Nat → Nat → Int32) (f : Nat → Nat → Int32) : List (Nat → Int32) := [(fun k => ([0, 0, 0, 0, 0, 0, (-1), 0, 0, 0, 0, 0, 0, 0, 0, 0, 0] : List Int32).getD k 0),
  (fun _ => 0),
  (fun _ => 0),
  (fun _ => 0),
  (fun _ => 0),
  (fun k => ([0, 0, 0, 0, 0, 0, 0, 0, 0, 0, 0, 0, 0, 0, 0, 0, 0] : List Int32).getD k 0),
  (fun _ => 0),
  (fun _ => 0),
  (fun _ => 0),
  (fun _ => 0),
  (fun _ => 0),
  (fun _ => 0),
  (fun _ => 0),
  (fun _ => 0),
  (fun _ => 0),
  (fun _ => 0),
  (fun _ => 0),
  (va_cpy zc0 (fun _ => 0) 0 0 5),
  (fun _ => 0),
  (fun k => ([0, 0, 0, 0, 0, 0, 0, 0] : List Int32).getD k 0),
  (upd (upd (upd (fun _ => 0) 0 (-1)) 1 (-1)) 2 (-1)),
  (upd (upd (upd (fun _ => 0) 0 (-1)) 1 (-1)) 2 (-1)),
  (fun _ => 0),
  (fun _ => 0),
  (fun _ => 0),
  (fun _ => 0),
  (fun k => ([0, 0, 0, 0, 0, 0, 0, 0, 0, 0, 0, 0, 0, 0, 0, 0, 0] : List Int32).getD k 0),
  (fun _ => 0),
  (fun _ => 0),
  (fun _ => 0),
  (fun _ => 0),
  (fun _ => 0),
  (fun _ => 0),
  (fun _ => 0),
  (fun _ => 0),
  (fun _ => 0),
  (fun _ => 0),
  (fun _ => 0),
  (va_cpy zc0 (fun _ => 0) 0 0 5),
  (fun _ => 0),
  (fun k => ([0, 0, 0, 0, 0, 0, 0, 0] : List Int32).getD k 0),
  (upd (upd (upd (fun _ => 0) 0 (-1)) 1 (-1)) 2 (-1)),
  (upd (upd (upd (fun _ => 0) 0 (-1)) 1 (-1)) 2 (-1)),
  (fun _ => 0),
  (fun _ => 0),
  (fun _ => 0),
  (fun _ => 0),
  (fun k => ([0, (-1), 0, 0, 0, 0, 0, 0, 0, 0, 0, 0, 0, 0] : List Int32).getD k 0),
  (fun _ => 0),
  (fun _ => 0),
  (fun k => ([0, 0, 0, 0, 0, 0, 0] : List Int32).getD k 0),
  (fun _ => 0),
  (fun _ => 0),
  (fun _ => 0),
  (fun _ => 0),
  (fun k => ([0, 0, 0, 0, 0, 0, 0, 0, 0, 0, (nW 99 0 0), (nW 99 0 1), (nW 99 0 2), (nW 99 0 3), (nW 99 0 4), (nW 99 0 5)] : List Int32).getD k 0),
  (F 0 0),
  (F 0 1),
  (F 0 2),
  (F 0 3),
  (F 0 4),
  (F 0 5),
  (F 0 6),
  (F 0 7),
  (F 0 8),
  (fun k => ([0, 0, 0, 0, 0, 0, 0, 0, 0, 0, (nW 99 0 0), (nW 99 0 1), (nW 99 0 2), (nW 99 0 3), (nW 99 0 4), (nW 99 0 5)] : List Int32).getD k 0),
  (F 1 0),
  (F 1 1),
  (F 1 2),
  (F 1 3),
  (F 1 4),
  (F 1 5),
  (F 1 6),
  (F 1 7),
  (F 1 8),
  (fun k => ([0, 0, 0, 0, 0, 0, 0, 0, 0, 0, (nW 99 0 0), (nW 99 0 1), (nW 99 0 2), (nW 99 0 3), (nW 99 0 4), (nW 99 0 5)] : List Int32).getD k 0),
  (F 2 0),
  (F 2 1),
  (F 2 2),
  (F 2 3),
  (F 2 4),
  (F 2 5),
  (F 2 6),
  (F 2 7),
  (F 2 8),
  (fun k => ([0, 0, 0, 0] : List Int32).getD k 0),
  (fun _ => 0),
  (fun _ => 0),
  (fun _ => 0),
  (fun k => ([0, (-1), 0, 0, 0, 0, 0] : List Int32).getD k 0),
  (fun _ => 0),
  (fun _ => 0),
  (fun _ => 0),
  (fun _ => 0),
  (fun _ => 0),
  (fun k => ([0, 0] : List Int32).getD k 0),
  (fun _ => 0),
  (fun _ => 0),
  (fun k => ([0, 0, 0, 0, 0, 0, 0, 0, 0, 0, 0, 0, 0, 0, 0, 0, 0, 0, 0, 0, 0, 0, 0, 0, 0, 0, 0, 0, 0, (-1), 0, 0, 0, 0, 0, 0, 0, 0, 0, 0, 0, 0, 0, 0, 0, 0, 0, 0, 0, 0, 0, 0, (-1), 0, 0, 0, 0, 0, 0, 0, 0, 0, (-1), 0, 0, 0, 0, 0] : List Int32).getD k 0),
  (f 0),
  (f 1),
  (f 2),
  (f 3),
  (f 4),
  (f 5),
  (f 6),
  (f 7),
  (f 8),
  (f 9),
  (f 10),
  (f 11),
  (f 12),
  (f 13),
  (f 14),
  (f 15),
  (f 16),
  (fun _ => 0),
  (fun _ => 0),
  (f 19),
  (f 20),
  (f 21),
  (f 22),
  (f 23),
  (f 24),
  (f 25),
  (f 26),
  (f 27),
  (f 28),
  (f 29),
  (f 30),
  (f 31),
  (f 32),
  (f 33),
  (f 34),
  (f 35),
  (f 36),
  (f 37),
  (f 38),
  (f 39),
  (f 40),
  (f 41),
  (f 42)]
def m0R : Nat → Nat → Option Nat := fun i k => if i = 0 ∧ k = 2 then some 5 else if i = 0 ∧ k = 3 then some 26 else if i = 47 ∧ k = 3 then some 26 else if i = 50 ∧ k = 0 then some 54 else if i = 55 ∧ k = 0 then some 5 else if i = 65 ∧ k = 0 then some 5 else if i = 75 ∧ k = 0 then some 5 else none
def M0 (F : Nat → Nat → Nat → Int32) (f : Nat → Nat → Int32) : zM := (fun i => (m0I F f).getD i (fun _ => 0), fun _ _ => 0, m0R)
def adL (h1 h2 : Nat) (q1 q2 : Nat → Nat) : List Nat := [h1, q1 0, q1 94, q1 95, q1 96, q1 1, q1 2, q1 3, q1 4, q1 5, q1 6, q1 7, q1 8, q1 9, q1 10, q1 11, q1 12, q1 13, q1 14, q1 15, q1 16, q1 17, q1 18, q1 19, q1 20, q1 21, q1 22, q1 23, q1 24, q1 25, q1 26, q1 27, q1 28, q1 29, q1 30, q1 31, q1 32, q1 33, q1 34, q1 35, q1 36, q1 37, q1 38, q1 39, q1 40, q1 41, q1 42, q1 43, q1 49, q1 50, q1 44, q1 46, q1 47, q1 48, q1 45, q1 51, q1 52, q1 53, q1 54, q1 55, q1 56, q1 57, q1 58, q1 59, q1 60, q1 61, q1 62, q1 63, q1 64, q1 65, q1 66, q1 67, q1 68, q1 69, q1 70, q1 71, q1 72, q1 73, q1 74, q1 75, q1 76, q1 77, q1 78, q1 79, q1 80, q1 81, q1 82, q1 83, q1 84, q1 85, q1 86, q1 87, q1 88, q1 89, q1 90, q1 91, q1 92, q1 93, h2, q2 0, q2 1, q2 2, q2 3, q2 4, q2 5, q2 6, q2 7, q2 8, q2 9, q2 10, q2 11, q2 12, q2 13, q2 14, q2 15, q2 16, q2 17, q2 18, q2 19, q2 20, q2 21, q2 22, q2 23, q2 24, q2 25, q2 26, q2 27, q2 28, q2 29, q2 30, q2 31, q2 32, q2 33, q2 34, q2 35, q2 36, q2 37, q2 38, q2 39, q2 40, q2 41, q2 42]
/-- the addresses: ids 142 .. 149 by the table t -/
def adG (h1 h2 : Nat) (q1 q2 t : Nat → Nat) : Nat → Nat := fun i => if i < 142 then (adL h1 h2 q1 q2).getD i 0 else t i
def G0 (B : bG) (h1 h2 : Nat) (q1 q2 t : Nat → Nat) : zG := (B.1, B.2, adG h1 h2 q1 q2 t)
theorem m0_0 {B : bG} {h1 h2 : Nat} {q1 q2 t : Nat → Nat} {F : Nat → Nat → Nat → Int32} {f : Nat → Nat → Int32} : (cX9 B h1 q1 F)[0]? = some ((G0 B h1 h2 q1 q2 t).2.2 0, zcell (G0 B h1 h2 q1 q2 t) (M0 F f) 0) := rfl
theorem m0_1 {B : bG} {h1 h2 : Nat} {q1 q2 t : Nat → Nat} {F : Nat → Nat → Nat → Int32} {f : Nat → Nat → Int32} : (cX9 B h1 q1 F)[1]? = some ((G0 B h1 h2 q1 q2 t).2.2 1, zcell (G0 B h1 h2 q1 q2 t) (M0 F f) 1) := rfl
theorem m0_2 {B : bG} {h1 h2 : Nat} {q1 q2 t : Nat → Nat} {F : Nat → Nat → Nat → Int32} {f : Nat → Nat → Int32} : (cX9 B h1 q1 F)[95]? = some ((G0 B h1 h2 q1 q2 t).2.2 2, zcell (G0 B h1 h2 q1 q2 t) (M0 F f) 2) := rfl
theorem m0_3 {B : bG} {h1 h2 : Nat} {q1 q2 t : Nat → Nat} {F : Nat → Nat → Nat → Int32} {f : Nat → Nat → Int32} : (cX9 B h1 q1 F)[96]? = some ((G0 B h1 h2 q1 q2 t).2.2 3, zcell (G0 B h1 h2 q1 q2 t) (M0 F f) 3) := rfl
theorem m0_4 {B : bG} {h1 h2 : Nat} {q1 q2 t : Nat → Nat} {F : Nat → Nat → Nat → Int32} {f : Nat → Nat → Int32} : (cX9 B h1 q1 F)[97]? = some ((G0 B h1 h2 q1 q2 t).2.2 4, zcell (G0 B h1 h2 q1 q2 t) (M0 F f) 4) := rfl
theorem m0_5 {B : bG} {h1 h2 : Nat} {q1 q2 t : Nat → Nat} {F : Nat → Nat → Nat → Int32} {f : Nat → Nat → Int32} : (cX9 B h1 q1 F)[2]? = some ((G0 B h1 h2 q1 q2 t).2.2 5, zcell (G0 B h1 h2 q1 q2 t) (M0 F f) 5) := rfl
theorem m0_6 {B : bG} {h1 h2 : Nat} {q1 q2 t : Nat → Nat} {F : Nat → Nat → Nat → Int32} {f : Nat → Nat → Int32} : (cX9 B h1 q1 F)[3]? = some ((G0 B h1 h2 q1 q2 t).2.2 6, zcell (G0 B h1 h2 q1 q2 t) (M0 F f) 6) := rfl
theorem m0_7 {B : bG} {h1 h2 : Nat} {q1 q2 t : Nat → Nat} {F : Nat → Nat → Nat → Int32} {f : Nat → Nat → Int32} : (cX9 B h1 q1 F)[4]? = some ((G0 B h1 h2 q1 q2 t).2.2 7, zcell (G0 B h1 h2 q1 q2 t) (M0 F f) 7) := rfl
theorem m0_8 {B : bG} {h1 h2 : Nat} {q1 q2 t : Nat → Nat} {F : Nat → Nat → Nat → Int32} {f : Nat → Nat → Int32} : (cX9 B h1 q1 F)[5]? = some ((G0 B h1 h2 q1 q2 t).2.2 8, zcell (G0 B h1 h2 q1 q2 t) (M0 F f) 8) := rfl
theorem m0_9 {B : bG} {h1 h2 : Nat} {q1 q2 t : Nat → Nat} {F : Nat → Nat → Nat → Int32} {f : Nat → Nat → Int32} : (cX9 B h1 q1 F)[6]? = some ((G0 B h1 h2 q1 q2 t).2.2 9, zcell (G0 B h1 h2 q1 q2 t) (M0 F f) 9) := rfl
theorem m0_10 {B : bG} {h1 h2 : Nat} {q1 q2 t : Nat → Nat} {F : Nat → Nat → Nat → Int32} {f : Nat → Nat → Int32} : (cX9 B h1 q1 F)[7]? = some ((G0 B h1 h2 q1 q2 t).2.2 10, zcell (G0 B h1 h2 q1 q2 t) (M0 F f) 10) := rfl
theorem m0_11 {B : bG} {h1 h2 : Nat} {q1 q2 t : Nat → Nat} {F : Nat → Nat → Nat → Int32} {f : Nat → Nat → Int32} : (cX9 B h1 q1 F)[8]? = some ((G0 B h1 h2 q1 q2 t).2.2 11, zcell (G0 B h1 h2 q1 q2 t) (M0 F f) 11) := rfl
theorem m0_12 {B : bG} {h1 h2 : Nat} {q1 q2 t : Nat → Nat} {F : Nat → Nat → Nat → Int32} {f : Nat → Nat → Int32} : (cX9 B h1 q1 F)[9]? = some ((G0 B h1 h2 q1 q2 t).2.2 12, zcell (G0 B h1 h2 q1 q2 t) (M0 F f) 12) := rfl
theorem m0_13 {B : bG} {h1 h2 : Nat} {q1 q2 t : Nat → Nat} {F : Nat → Nat → Nat → Int32} {f : Nat → Nat → Int32} : (cX9 B h1 q1 F)[10]? = some ((G0 B h1 h2 q1 q2 t).2.2 13, zcell (G0 B h1 h2 q1 q2 t) (M0 F f) 13) := rfl
theorem m0_14 {B : bG} {h1 h2 : Nat} {q1 q2 t : Nat → Nat} {F : Nat → Nat → Nat → Int32} {f : Nat → Nat → Int32} : (cX9 B h1 q1 F)[11]? = some ((G0 B h1 h2 q1 q2 t).2.2 14, zcell (G0 B h1 h2 q1 q2 t) (M0 F f) 14) := rfl
theorem m0_15 {B : bG} {h1 h2 : Nat} {q1 q2 t : Nat → Nat} {F : Nat → Nat → Nat → Int32} {f : Nat → Nat → Int32} : (cX9 B h1 q1 F)[12]? = some ((G0 B h1 h2 q1 q2 t).2.2 15, zcell (G0 B h1 h2 q1 q2 t) (M0 F f) 15) := rfl
theorem m0_16 {B : bG} {h1 h2 : Nat} {q1 q2 t : Nat → Nat} {F : Nat → Nat → Nat → Int32} {f : Nat → Nat → Int32} : (cX9 B h1 q1 F)[13]? = some ((G0 B h1 h2 q1 q2 t).2.2 16, zcell (G0 B h1 h2 q1 q2 t) (M0 F f) 16) := rfl
theorem m0_17 {B : bG} {h1 h2 : Nat} {q1 q2 t : Nat → Nat} {F : Nat → Nat → Nat → Int32} {f : Nat → Nat → Int32} : (cX9 B h1 q1 F)[14]? = some ((G0 B h1 h2 q1 q2 t).2.2 17, zcell (G0 B h1 h2 q1 q2 t) (M0 F f) 17) := rfl
theorem m0_18 {B : bG} {h1 h2 : Nat} {q1 q2 t : Nat → Nat} {F : Nat → Nat → Nat → Int32} {f : Nat → Nat → Int32} : (cX9 B h1 q1 F)[15]? = some ((G0 B h1 h2 q1 q2 t).2.2 18, zcell (G0 B h1 h2 q1 q2 t) (M0 F f) 18) := rfl
theorem m0_19 {B : bG} {h1 h2 : Nat} {q1 q2 t : Nat → Nat} {F : Nat → Nat → Nat → Int32} {f : Nat → Nat → Int32} : (cX9 B h1 q1 F)[16]? = some ((G0 B h1 h2 q1 q2 t).2.2 19, zcell (G0 B h1 h2 q1 q2 t) (M0 F f) 19) := rfl
theorem m0_20 {B : bG} {h1 h2 : Nat} {q1 q2 t : Nat → Nat} {F : Nat → Nat → Nat → Int32} {f : Nat → Nat → Int32} : (cX9 B h1 q1 F)[17]? = some ((G0 B h1 h2 q1 q2 t).2.2 20, zcell (G0 B h1 h2 q1 q2 t) (M0 F f) 20) := rfl
theorem m0_21 {B : bG} {h1 h2 : Nat} {q1 q2 t : Nat → Nat} {F : Nat → Nat → Nat → Int32} {f : Nat → Nat → Int32} : (cX9 B h1 q1 F)[18]? = some ((G0 B h1 h2 q1 q2 t).2.2 21, zcell (G0 B h1 h2 q1 q2 t) (M0 F f) 21) := rfl
theorem m0_22 {B : bG} {h1 h2 : Nat} {q1 q2 t : Nat → Nat} {F : Nat → Nat → Nat → Int32} {f : Nat → Nat → Int32} : (cX9 B h1 q1 F)[19]? = some ((G0 B h1 h2 q1 q2 t).2.2 22, zcell (G0 B h1 h2 q1 q2 t) (M0 F f) 22) := rfl
theorem m0_23 {B : bG} {h1 h2 : Nat} {q1 q2 t : Nat → Nat} {F : Nat → Nat → Nat → Int32} {f : Nat → Nat → Int32} : (cX9 B h1 q1 F)[20]? = some ((G0 B h1 h2 q1 q2 t).2.2 23, zcell (G0 B h1 h2 q1 q2 t) (M0 F f) 23) := rfl
theorem m0_24 {B : bG} {h1 h2 : Nat} {q1 q2 t : Nat → Nat} {F : Nat → Nat → Nat → Int32} {f : Nat → Nat → Int32} : (cX9 B h1 q1 F)[21]? = some ((G0 B h1 h2 q1 q2 t).2.2 24, zcell (G0 B h1 h2 q1 q2 t) (M0 F f) 24) := rfl
theorem m0_25 {B : bG} {h1 h2 : Nat} {q1 q2 t : Nat → Nat} {F : Nat → Nat → Nat → Int32} {f : Nat → Nat → Int32} : (cX9 B h1 q1 F)[22]? = some ((G0 B h1 h2 q1 q2 t).2.2 25, zcell (G0 B h1 h2 q1 q2 t) (M0 F f) 25) := rfl
theorem m0_26 {B : bG} {h1 h2 : Nat} {q1 q2 t : Nat → Nat} {F : Nat → Nat → Nat → Int32} {f : Nat → Nat → Int32} : (cX9 B h1 q1 F)[23]? = some ((G0 B h1 h2 q1 q2 t).2.2 26, zcell (G0 B h1 h2 q1 q2 t) (M0 F f) 26) := rfl
theorem m0_27 {B : bG} {h1 h2 : Nat} {q1 q2 t : Nat → Nat} {F : Nat → Nat → Nat → Int32} {f : Nat → Nat → Int32} : (cX9 B h1 q1 F)[24]? = some ((G0 B h1 h2 q1 q2 t).2.2 27, zcell (G0 B h1 h2 q1 q2 t) (M0 F f) 27) := rfl
theorem m0_28 {B : bG} {h1 h2 : Nat} {q1 q2 t : Nat → Nat} {F : Nat → Nat → Nat → Int32} {f : Nat → Nat → Int32} : (cX9 B h1 q1 F)[25]? = some ((G0 B h1 h2 q1 q2 t).2.2 28, zcell (G0 B h1 h2 q1 q2 t) (M0 F f) 28) := rfl
theorem m0_29 {B : bG} {h1 h2 : Nat} {q1 q2 t : Nat → Nat} {F : Nat → Nat → Nat → Int32} {f : Nat → Nat → Int32} : (cX9 B h1 q1 F)[26]? = some ((G0 B h1 h2 q1 q2 t).2.2 29, zcell (G0 B h1 h2 q1 q2 t) (M0 F f) 29) := rfl
theorem m0_30 {B : bG} {h1 h2 : Nat} {q1 q2 t : Nat → Nat} {F : Nat → Nat → Nat → Int32} {f : Nat → Nat → Int32} : (cX9 B h1 q1 F)[27]? = some ((G0 B h1 h2 q1 q2 t).2.2 30, zcell (G0 B h1 h2 q1 q2 t) (M0 F f) 30) := rfl
theorem m0_31 {B : bG} {h1 h2 : Nat} {q1 q2 t : Nat → Nat} {F : Nat → Nat → Nat → Int32} {f : Nat → Nat → Int32} : (cX9 B h1 q1 F)[28]? = some ((G0 B h1 h2 q1 q2 t).2.2 31, zcell (G0 B h1 h2 q1 q2 t) (M0 F f) 31) := rfl
theorem m0_32 {B : bG} {h1 h2 : Nat} {q1 q2 t : Nat → Nat} {F : Nat → Nat → Nat → Int32} {f : Nat → Nat → Int32} : (cX9 B h1 q1 F)[29]? = some ((G0 B h1 h2 q1 q2 t).2.2 32, zcell (G0 B h1 h2 q1 q2 t) (M0 F f) 32) := rfl
theorem m0_33 {B : bG} {h1 h2 : Nat} {q1 q2 t : Nat → Nat} {F : Nat → Nat → Nat → Int32} {f : Nat → Nat → Int32} : (cX9 B h1 q1 F)[30]? = some ((G0 B h1 h2 q1 q2 t).2.2 33, zcell (G0 B h1 h2 q1 q2 t) (M0 F f) 33) := rfl
theorem m0_34 {B : bG} {h1 h2 : Nat} {q1 q2 t : Nat → Nat} {F : Nat → Nat → Nat → Int32} {f : Nat → Nat → Int32} : (cX9 B h1 q1 F)[31]? = some ((G0 B h1 h2 q1 q2 t).2.2 34, zcell (G0 B h1 h2 q1 q2 t) (M0 F f) 34) := rfl
theorem m0_35 {B : bG} {h1 h2 : Nat} {q1 q2 t : Nat → Nat} {F : Nat → Nat → Nat → Int32} {f : Nat → Nat → Int32} : (cX9 B h1 q1 F)[32]? = some ((G0 B h1 h2 q1 q2 t).2.2 35, zcell (G0 B h1 h2 q1 q2 t) (M0 F f) 35) := rfl
theorem m0_36 {B : bG} {h1 h2 : Nat} {q1 q2 t : Nat → Nat} {F : Nat → Nat → Nat → Int32} {f : Nat → Nat → Int32} : (cX9 B h1 q1 F)[33]? = some ((G0 B h1 h2 q1 q2 t).2.2 36, zcell (G0 B h1 h2 q1 q2 t) (M0 F f) 36) := rfl
theorem m0_37 {B : bG} {h1 h2 : Nat} {q1 q2 t : Nat → Nat} {F : Nat → Nat → Nat → Int32} {f : Nat → Nat → Int32} : (cX9 B h1 q1 F)[34]? = some ((G0 B h1 h2 q1 q2 t).2.2 37, zcell (G0 B h1 h2 q1 q2 t) (M0 F f) 37) := rfl
theorem m0_38 {B : bG} {h1 h2 : Nat} {q1 q2 t : Nat → Nat} {F : Nat → Nat → Nat → Int32} {f : Nat → Nat → Int32} : (cX9 B h1 q1 F)[35]? = some ((G0 B h1 h2 q1 q2 t).2.2 38, zcell (G0 B h1 h2 q1 q2 t) (M0 F f) 38) := rfl
theorem m0_39 {B : bG} {h1 h2 : Nat} {q1 q2 t : Nat → Nat} {F : Nat → Nat → Nat → Int32} {f : Nat → Nat → Int32} : (cX9 B h1 q1 F)[36]? = some ((G0 B h1 h2 q1 q2 t).2.2 39, zcell (G0 B h1 h2 q1 q2 t) (M0 F f) 39) := rfl
theorem m0_40 {B : bG} {h1 h2 : Nat} {q1 q2 t : Nat → Nat} {F : Nat → Nat → Nat → Int32} {f : Nat → Nat → Int32} : (cX9 B h1 q1 F)[37]? = some ((G0 B h1 h2 q1 q2 t).2.2 40, zcell (G0 B h1 h2 q1 q2 t) (M0 F f) 40) := rfl
theorem m0_41 {B : bG} {h1 h2 : Nat} {q1 q2 t : Nat → Nat} {F : Nat → Nat → Nat → Int32} {f : Nat → Nat → Int32} : (cX9 B h1 q1 F)[38]? = some ((G0 B h1 h2 q1 q2 t).2.2 41, zcell (G0 B h1 h2 q1 q2 t) (M0 F f) 41) := rfl
theorem m0_42 {B : bG} {h1 h2 : Nat} {q1 q2 t : Nat → Nat} {F : Nat → Nat → Nat → Int32} {f : Nat → Nat → Int32} : (cX9 B h1 q1 F)[39]? = some ((G0 B h1 h2 q1 q2 t).2.2 42, zcell (G0 B h1 h2 q1 q2 t) (M0 F f) 42) := rfl
theorem m0_43 {B : bG} {h1 h2 : Nat} {q1 q2 t : Nat → Nat} {F : Nat → Nat → Nat → Int32} {f : Nat → Nat → Int32} : (cX9 B h1 q1 F)[40]? = some ((G0 B h1 h2 q1 q2 t).2.2 43, zcell (G0 B h1 h2 q1 q2 t) (M0 F f) 43) := rfl
theorem m0_44 {B : bG} {h1 h2 : Nat} {q1 q2 t : Nat → Nat} {F : Nat → Nat → Nat → Int32} {f : Nat → Nat → Int32} : (cX9 B h1 q1 F)[41]? = some ((G0 B h1 h2 q1 q2 t).2.2 44, zcell (G0 B h1 h2 q1 q2 t) (M0 F f) 44) := rfl
theorem m0_45 {B : bG} {h1 h2 : Nat} {q1 q2 t : Nat → Nat} {F : Nat → Nat → Nat → Int32} {f : Nat → Nat → Int32} : (cX9 B h1 q1 F)[42]? = some ((G0 B h1 h2 q1 q2 t).2.2 45, zcell (G0 B h1 h2 q1 q2 t) (M0 F f) 45) := rfl
theorem m0_46 {B : bG} {h1 h2 : Nat} {q1 q2 t : Nat → Nat} {F : Nat → Nat → Nat → Int32} {f : Nat → Nat → Int32} : (cX9 B h1 q1 F)[43]? = some ((G0 B h1 h2 q1 q2 t).2.2 46, zcell (G0 B h1 h2 q1 q2 t) (M0 F f) 46) := rfl
theorem m0_47 {B : bG} {h1 h2 : Nat} {q1 q2 t : Nat → Nat} {F : Nat → Nat → Nat → Int32} {f : Nat → Nat → Int32} : (cX9 B h1 q1 F)[44]? = some ((G0 B h1 h2 q1 q2 t).2.2 47, zcell (G0 B h1 h2 q1 q2 t) (M0 F f) 47) := rfl
theorem m0_48 {B : bG} {h1 h2 : Nat} {q1 q2 t : Nat → Nat} {F : Nat → Nat → Nat → Int32} {f : Nat → Nat → Int32} : (cX9 B h1 q1 F)[50]? = some ((G0 B h1 h2 q1 q2 t).2.2 48, zcell (G0 B h1 h2 q1 q2 t) (M0 F f) 48) := rfl
theorem m0_49 {B : bG} {h1 h2 : Nat} {q1 q2 t : Nat → Nat} {F : Nat → Nat → Nat → Int32} {f : Nat → Nat → Int32} : (cX9 B h1 q1 F)[51]? = some ((G0 B h1 h2 q1 q2 t).2.2 49, zcell (G0 B h1 h2 q1 q2 t) (M0 F f) 49) := rfl
theorem m0_50 {B : bG} {h1 h2 : Nat} {q1 q2 t : Nat → Nat} {F : Nat → Nat → Nat → Int32} {f : Nat → Nat → Int32} : (cX9 B h1 q1 F)[45]? = some ((G0 B h1 h2 q1 q2 t).2.2 50, zcell (G0 B h1 h2 q1 q2 t) (M0 F f) 50) := rfl
theorem m0_51 {B : bG} {h1 h2 : Nat} {q1 q2 t : Nat → Nat} {F : Nat → Nat → Nat → Int32} {f : Nat → Nat → Int32} : (cX9 B h1 q1 F)[47]? = some ((G0 B h1 h2 q1 q2 t).2.2 51, zcell (G0 B h1 h2 q1 q2 t) (M0 F f) 51) := rfl
theorem m0_52 {B : bG} {h1 h2 : Nat} {q1 q2 t : Nat → Nat} {F : Nat → Nat → Nat → Int32} {f : Nat → Nat → Int32} : (cX9 B h1 q1 F)[48]? = some ((G0 B h1 h2 q1 q2 t).2.2 52, zcell (G0 B h1 h2 q1 q2 t) (M0 F f) 52) := rfl
theorem m0_53 {B : bG} {h1 h2 : Nat} {q1 q2 t : Nat → Nat} {F : Nat → Nat → Nat → Int32} {f : Nat → Nat → Int32} : (cX9 B h1 q1 F)[49]? = some ((G0 B h1 h2 q1 q2 t).2.2 53, zcell (G0 B h1 h2 q1 q2 t) (M0 F f) 53) := rfl
theorem m0_54 {B : bG} {h1 h2 : Nat} {q1 q2 t : Nat → Nat} {F : Nat → Nat → Nat → Int32} {f : Nat → Nat → Int32} : (cX9 B h1 q1 F)[46]? = some ((G0 B h1 h2 q1 q2 t).2.2 54, zcell (G0 B h1 h2 q1 q2 t) (M0 F f) 54) := rfl
theorem m0_55 {B : bG} {h1 h2 : Nat} {q1 q2 t : Nat → Nat} {F : Nat → Nat → Nat → Int32} {f : Nat → Nat → Int32} : (cX9 B h1 q1 F)[52]? = some ((G0 B h1 h2 q1 q2 t).2.2 55, zcell (G0 B h1 h2 q1 q2 t) (M0 F f) 55) := rfl
theorem m0_56 {B : bG} {h1 h2 : Nat} {q1 q2 t : Nat → Nat} {F : Nat → Nat → Nat → Int32} {f : Nat → Nat → Int32} : (cX9 B h1 q1 F)[53]? = some ((G0 B h1 h2 q1 q2 t).2.2 56, zcell (G0 B h1 h2 q1 q2 t) (M0 F f) 56) := rfl
theorem m0_57 {B : bG} {h1 h2 : Nat} {q1 q2 t : Nat → Nat} {F : Nat → Nat → Nat → Int32} {f : Nat → Nat → Int32} : (cX9 B h1 q1 F)[54]? = some ((G0 B h1 h2 q1 q2 t).2.2 57, zcell (G0 B h1 h2 q1 q2 t) (M0 F f) 57) := rfl
theorem m0_58 {B : bG} {h1 h2 : Nat} {q1 q2 t : Nat → Nat} {F : Nat → Nat → Nat → Int32} {f : Nat → Nat → Int32} : (cX9 B h1 q1 F)[55]? = some ((G0 B h1 h2 q1 q2 t).2.2 58, zcell (G0 B h1 h2 q1 q2 t) (M0 F f) 58) := rfl
theorem m0_59 {B : bG} {h1 h2 : Nat} {q1 q2 t : Nat → Nat} {F : Nat → Nat → Nat → Int32} {f : Nat → Nat → Int32} : (cX9 B h1 q1 F)[56]? = some ((G0 B h1 h2 q1 q2 t).2.2 59, zcell (G0 B h1 h2 q1 q2 t) (M0 F f) 59) := rfl
theorem m0_60 {B : bG} {h1 h2 : Nat} {q1 q2 t : Nat → Nat} {F : Nat → Nat → Nat → Int32} {f : Nat → Nat → Int32} : (cX9 B h1 q1 F)[57]? = some ((G0 B h1 h2 q1 q2 t).2.2 60, zcell (G0 B h1 h2 q1 q2 t) (M0 F f) 60) := rfl
theorem m0_61 {B : bG} {h1 h2 : Nat} {q1 q2 t : Nat → Nat} {F : Nat → Nat → Nat → Int32} {f : Nat → Nat → Int32} : (cX9 B h1 q1 F)[58]? = some ((G0 B h1 h2 q1 q2 t).2.2 61, zcell (G0 B h1 h2 q1 q2 t) (M0 F f) 61) := rfl
theorem m0_62 {B : bG} {h1 h2 : Nat} {q1 q2 t : Nat → Nat} {F : Nat → Nat → Nat → Int32} {f : Nat → Nat → Int32} : (cX9 B h1 q1 F)[59]? = some ((G0 B h1 h2 q1 q2 t).2.2 62, zcell (G0 B h1 h2 q1 q2 t) (M0 F f) 62) := rfl
theorem m0_63 {B : bG} {h1 h2 : Nat} {q1 q2 t : Nat → Nat} {F : Nat → Nat → Nat → Int32} {f : Nat → Nat → Int32} : (cX9 B h1 q1 F)[60]? = some ((G0 B h1 h2 q1 q2 t).2.2 63, zcell (G0 B h1 h2 q1 q2 t) (M0 F f) 63) := rfl
theorem m0_64 {B : bG} {h1 h2 : Nat} {q1 q2 t : Nat → Nat} {F : Nat → Nat → Nat → Int32} {f : Nat → Nat → Int32} : (cX9 B h1 q1 F)[61]? = some ((G0 B h1 h2 q1 q2 t).2.2 64, zcell (G0 B h1 h2 q1 q2 t) (M0 F f) 64) := rfl
theorem m0_65 {B : bG} {h1 h2 : Nat} {q1 q2 t : Nat → Nat} {F : Nat → Nat → Nat → Int32} {f : Nat → Nat → Int32} : (cX9 B h1 q1 F)[62]? = some ((G0 B h1 h2 q1 q2 t).2.2 65, zcell (G0 B h1 h2 q1 q2 t) (M0 F f) 65) := rfl
theorem m0_66 {B : bG} {h1 h2 : Nat} {q1 q2 t : Nat → Nat} {F : Nat → Nat → Nat → Int32} {f : Nat → Nat → Int32} : (cX9 B h1 q1 F)[63]? = some ((G0 B h1 h2 q1 q2 t).2.2 66, zcell (G0 B h1 h2 q1 q2 t) (M0 F f) 66) := rfl
theorem m0_67 {B : bG} {h1 h2 : Nat} {q1 q2 t : Nat → Nat} {F : Nat → Nat → Nat → Int32} {f : Nat → Nat → Int32} : (cX9 B h1 q1 F)[64]? = some ((G0 B h1 h2 q1 q2 t).2.2 67, zcell (G0 B h1 h2 q1 q2 t) (M0 F f) 67) := rfl
theorem m0_68 {B : bG} {h1 h2 : Nat} {q1 q2 t : Nat → Nat} {F : Nat → Nat → Nat → Int32} {f : Nat → Nat → Int32} : (cX9 B h1 q1 F)[65]? = some ((G0 B h1 h2 q1 q2 t).2.2 68, zcell (G0 B h1 h2 q1 q2 t) (M0 F f) 68) := rfl
theorem m0_69 {B : bG} {h1 h2 : Nat} {q1 q2 t : Nat → Nat} {F : Nat → Nat → Nat → Int32} {f : Nat → Nat → Int32} : (cX9 B h1 q1 F)[66]? = some ((G0 B h1 h2 q1 q2 t).2.2 69, zcell (G0 B h1 h2 q1 q2 t) (M0 F f) 69) := rfl
theorem m0_70 {B : bG} {h1 h2 : Nat} {q1 q2 t : Nat → Nat} {F : Nat → Nat → Nat → Int32} {f : Nat → Nat → Int32} : (cX9 B h1 q1 F)[67]? = some ((G0 B h1 h2 q1 q2 t).2.2 70, zcell (G0 B h1 h2 q1 q2 t) (M0 F f) 70) := rfl
theorem m0_71 {B : bG} {h1 h2 : Nat} {q1 q2 t : Nat → Nat} {F : Nat → Nat → Nat → Int32} {f : Nat → Nat → Int32} : (cX9 B h1 q1 F)[68]? = some ((G0 B h1 h2 q1 q2 t).2.2 71, zcell (G0 B h1 h2 q1 q2 t) (M0 F f) 71) := rfl
theorem m0_72 {B : bG} {h1 h2 : Nat} {q1 q2 t : Nat → Nat} {F : Nat → Nat → Nat → Int32} {f : Nat → Nat → Int32} : (cX9 B h1 q1 F)[69]? = some ((G0 B h1 h2 q1 q2 t).2.2 72, zcell (G0 B h1 h2 q1 q2 t) (M0 F f) 72) := rfl
theorem m0_73 {B : bG} {h1 h2 : Nat} {q1 q2 t : Nat → Nat} {F : Nat → Nat → Nat → Int32} {f : Nat → Nat → Int32} : (cX9 B h1 q1 F)[70]? = some ((G0 B h1 h2 q1 q2 t).2.2 73, zcell (G0 B h1 h2 q1 q2 t) (M0 F f) 73) := rfl
theorem m0_74 {B : bG} {h1 h2 : Nat} {q1 q2 t : Nat → Nat} {F : Nat → Nat → Nat → Int32} {f : Nat → Nat → Int32} : (cX9 B h1 q1 F)[71]? = some ((G0 B h1 h2 q1 q2 t).2.2 74, zcell (G0 B h1 h2 q1 q2 t) (M0 F f) 74) := rfl
theorem m0_75 {B : bG} {h1 h2 : Nat} {q1 q2 t : Nat → Nat} {F : Nat → Nat → Nat → Int32} {f : Nat → Nat → Int32} : (cX9 B h1 q1 F)[72]? = some ((G0 B h1 h2 q1 q2 t).2.2 75, zcell (G0 B h1 h2 q1 q2 t) (M0 F f) 75) := rfl
theorem m0_76 {B : bG} {h1 h2 : Nat} {q1 q2 t : Nat → Nat} {F : Nat → Nat → Nat → Int32} {f : Nat → Nat → Int32} : (cX9 B h1 q1 F)[73]? = some ((G0 B h1 h2 q1 q2 t).2.2 76, zcell (G0 B h1 h2 q1 q2 t) (M0 F f) 76) := rfl
theorem m0_77 {B : bG} {h1 h2 : Nat} {q1 q2 t : Nat → Nat} {F : Nat → Nat → Nat → Int32} {f : Nat → Nat → Int32} : (cX9 B h1 q1 F)[74]? = some ((G0 B h1 h2 q1 q2 t).2.2 77, zcell (G0 B h1 h2 q1 q2 t) (M0 F f) 77) := rfl
theorem m0_78 {B : bG} {h1 h2 : Nat} {q1 q2 t : Nat → Nat} {F : Nat → Nat → Nat → Int32} {f : Nat → Nat → Int32} : (cX9 B h1 q1 F)[75]? = some ((G0 B h1 h2 q1 q2 t).2.2 78, zcell (G0 B h1 h2 q1 q2 t) (M0 F f) 78) := rfl
theorem m0_79 {B : bG} {h1 h2 : Nat} {q1 q2 t : Nat → Nat} {F : Nat → Nat → Nat → Int32} {f : Nat → Nat → Int32} : (cX9 B h1 q1 F)[76]? = some ((G0 B h1 h2 q1 q2 t).2.2 79, zcell (G0 B h1 h2 q1 q2 t) (M0 F f) 79) := rfl
theorem m0_80 {B : bG} {h1 h2 : Nat} {q1 q2 t : Nat → Nat} {F : Nat → Nat → Nat → Int32} {f : Nat → Nat → Int32} : (cX9 B h1 q1 F)[77]? = some ((G0 B h1 h2 q1 q2 t).2.2 80, zcell (G0 B h1 h2 q1 q2 t) (M0 F f) 80) := rfl
theorem m0_81 {B : bG} {h1 h2 : Nat} {q1 q2 t : Nat → Nat} {F : Nat → Nat → Nat → Int32} {f : Nat → Nat → Int32} : (cX9 B h1 q1 F)[78]? = some ((G0 B h1 h2 q1 q2 t).2.2 81, zcell (G0 B h1 h2 q1 q2 t) (M0 F f) 81) := rfl
theorem m0_82 {B : bG} {h1 h2 : Nat} {q1 q2 t : Nat → Nat} {F : Nat → Nat → Nat → Int32} {f : Nat → Nat → Int32} : (cX9 B h1 q1 F)[79]? = some ((G0 B h1 h2 q1 q2 t).2.2 82, zcell (G0 B h1 h2 q1 q2 t) (M0 F f) 82) := rfl
theorem m0_83 {B : bG} {h1 h2 : Nat} {q1 q2 t : Nat → Nat} {F : Nat → Nat → Nat → Int32} {f : Nat → Nat → Int32} : (cX9 B h1 q1 F)[80]? = some ((G0 B h1 h2 q1 q2 t).2.2 83, zcell (G0 B h1 h2 q1 q2 t) (M0 F f) 83) := rfl
theorem m0_84 {B : bG} {h1 h2 : Nat} {q1 q2 t : Nat → Nat} {F : Nat → Nat → Nat → Int32} {f : Nat → Nat → Int32} : (cX9 B h1 q1 F)[81]? = some ((G0 B h1 h2 q1 q2 t).2.2 84, zcell (G0 B h1 h2 q1 q2 t) (M0 F f) 84) := rfl
theorem m0_85 {B : bG} {h1 h2 : Nat} {q1 q2 t : Nat → Nat} {F : Nat → Nat → Nat → Int32} {f : Nat → Nat → Int32} : (cX9 B h1 q1 F)[82]? = some ((G0 B h1 h2 q1 q2 t).2.2 85, zcell (G0 B h1 h2 q1 q2 t) (M0 F f) 85) := rfl
theorem m0_86 {B : bG} {h1 h2 : Nat} {q1 q2 t : Nat → Nat} {F : Nat → Nat → Nat → Int32} {f : Nat → Nat → Int32} : (cX9 B h1 q1 F)[83]? = some ((G0 B h1 h2 q1 q2 t).2.2 86, zcell (G0 B h1 h2 q1 q2 t) (M0 F f) 86) := rfl
theorem m0_87 {B : bG} {h1 h2 : Nat} {q1 q2 t : Nat → Nat} {F : Nat → Nat → Nat → Int32} {f : Nat → Nat → Int32} : (cX9 B h1 q1 F)[84]? = some ((G0 B h1 h2 q1 q2 t).2.2 87, zcell (G0 B h1 h2 q1 q2 t) (M0 F f) 87) := rfl
theorem m0_88 {B : bG} {h1 h2 : Nat} {q1 q2 t : Nat → Nat} {F : Nat → Nat → Nat → Int32} {f : Nat → Nat → Int32} : (cX9 B h1 q1 F)[85]? = some ((G0 B h1 h2 q1 q2 t).2.2 88, zcell (G0 B h1 h2 q1 q2 t) (M0 F f) 88) := rfl
theorem m0_89 {B : bG} {h1 h2 : Nat} {q1 q2 t : Nat → Nat} {F : Nat → Nat → Nat → Int32} {f : Nat → Nat → Int32} : (cX9 B h1 q1 F)[86]? = some ((G0 B h1 h2 q1 q2 t).2.2 89, zcell (G0 B h1 h2 q1 q2 t) (M0 F f) 89) := rfl
theorem m0_90 {B : bG} {h1 h2 : Nat} {q1 q2 t : Nat → Nat} {F : Nat → Nat → Nat → Int32} {f : Nat → Nat → Int32} : (cX9 B h1 q1 F)[87]? = some ((G0 B h1 h2 q1 q2 t).2.2 90, zcell (G0 B h1 h2 q1 q2 t) (M0 F f) 90) := rfl
theorem m0_91 {B : bG} {h1 h2 : Nat} {q1 q2 t : Nat → Nat} {F : Nat → Nat → Nat → Int32} {f : Nat → Nat → Int32} : (cX9 B h1 q1 F)[88]? = some ((G0 B h1 h2 q1 q2 t).2.2 91, zcell (G0 B h1 h2 q1 q2 t) (M0 F f) 91) := rfl
theorem m0_92 {B : bG} {h1 h2 : Nat} {q1 q2 t : Nat → Nat} {F : Nat → Nat → Nat → Int32} {f : Nat → Nat → Int32} : (cX9 B h1 q1 F)[89]? = some ((G0 B h1 h2 q1 q2 t).2.2 92, zcell (G0 B h1 h2 q1 q2 t) (M0 F f) 92) := rfl
theorem m0_93 {B : bG} {h1 h2 : Nat} {q1 q2 t : Nat → Nat} {F : Nat → Nat → Nat → Int32} {f : Nat → Nat → Int32} : (cX9 B h1 q1 F)[90]? = some ((G0 B h1 h2 q1 q2 t).2.2 93, zcell (G0 B h1 h2 q1 q2 t) (M0 F f) 93) := rfl
theorem m0_94 {B : bG} {h1 h2 : Nat} {q1 q2 t : Nat → Nat} {F : Nat → Nat → Nat → Int32} {f : Nat → Nat → Int32} : (cX9 B h1 q1 F)[91]? = some ((G0 B h1 h2 q1 q2 t).2.2 94, zcell (G0 B h1 h2 q1 q2 t) (M0 F f) 94) := rfl
theorem m0_95 {B : bG} {h1 h2 : Nat} {q1 q2 t : Nat → Nat} {F : Nat → Nat → Nat → Int32} {f : Nat → Nat → Int32} : (cX9 B h1 q1 F)[92]? = some ((G0 B h1 h2 q1 q2 t).2.2 95, zcell (G0 B h1 h2 q1 q2 t) (M0 F f) 95) := rfl
theorem m0_96 {B : bG} {h1 h2 : Nat} {q1 q2 t : Nat → Nat} {F : Nat → Nat → Nat → Int32} {f : Nat → Nat → Int32} : (cX9 B h1 q1 F)[93]? = some ((G0 B h1 h2 q1 q2 t).2.2 96, zcell (G0 B h1 h2 q1 q2 t) (M0 F f) 96) := rfl
theorem m0_97 {B : bG} {h1 h2 : Nat} {q1 q2 t : Nat → Nat} {F : Nat → Nat → Nat → Int32} {f : Nat → Nat → Int32} : (cX9 B h1 q1 F)[94]? = some ((G0 B h1 h2 q1 q2 t).2.2 97, zcell (G0 B h1 h2 q1 q2 t) (M0 F f) 97) := rfl
theorem m0_98 {B : bG} {h1 h2 : Nat} {q1 q2 t : Nat → Nat} {F : Nat → Nat → Nat → Int32} {f : Nat → Nat → Int32} : (cX10 B h2 q2 f)[0]? = some ((G0 B h1 h2 q1 q2 t).2.2 98, zcell (G0 B h1 h2 q1 q2 t) (M0 F f) 98) := rfl
theorem m0_99 {B : bG} {h1 h2 : Nat} {q1 q2 t : Nat → Nat} {F : Nat → Nat → Nat → Int32} {f : Nat → Nat → Int32} : (cX10 B h2 q2 f)[1]? = some ((G0 B h1 h2 q1 q2 t).2.2 99, zcell (G0 B h1 h2 q1 q2 t) (M0 F f) 99) := rfl
theorem m0_100 {B : bG} {h1 h2 : Nat} {q1 q2 t : Nat → Nat} {F : Nat → Nat → Nat → Int32} {f : Nat → Nat → Int32} : (cX10 B h2 q2 f)[2]? = some ((G0 B h1 h2 q1 q2 t).2.2 100, zcell (G0 B h1 h2 q1 q2 t) (M0 F f) 100) := rfl
theorem m0_101 {B : bG} {h1 h2 : Nat} {q1 q2 t : Nat → Nat} {F : Nat → Nat → Nat → Int32} {f : Nat → Nat → Int32} : (cX10 B h2 q2 f)[3]? = some ((G0 B h1 h2 q1 q2 t).2.2 101, zcell (G0 B h1 h2 q1 q2 t) (M0 F f) 101) := rfl
theorem m0_102 {B : bG} {h1 h2 : Nat} {q1 q2 t : Nat → Nat} {F : Nat → Nat → Nat → Int32} {f : Nat → Nat → Int32} : (cX10 B h2 q2 f)[4]? = some ((G0 B h1 h2 q1 q2 t).2.2 102, zcell (G0 B h1 h2 q1 q2 t) (M0 F f) 102) := rfl
theorem m0_103 {B : bG} {h1 h2 : Nat} {q1 q2 t : Nat → Nat} {F : Nat → Nat → Nat → Int32} {f : Nat → Nat → Int32} : (cX10 B h2 q2 f)[5]? = some ((G0 B h1 h2 q1 q2 t).2.2 103, zcell (G0 B h1 h2 q1 q2 t) (M0 F f) 103) := rfl
theorem m0_104 {B : bG} {h1 h2 : Nat} {q1 q2 t : Nat → Nat} {F : Nat → Nat → Nat → Int32} {f : Nat → Nat → Int32} : (cX10 B h2 q2 f)[6]? = some ((G0 B h1 h2 q1 q2 t).2.2 104, zcell (G0 B h1 h2 q1 q2 t) (M0 F f) 104) := rfl
theorem m0_105 {B : bG} {h1 h2 : Nat} {q1 q2 t : Nat → Nat} {F : Nat → Nat → Nat → Int32} {f : Nat → Nat → Int32} : (cX10 B h2 q2 f)[7]? = some ((G0 B h1 h2 q1 q2 t).2.2 105, zcell (G0 B h1 h2 q1 q2 t) (M0 F f) 105) := rfl
theorem m0_106 {B : bG} {h1 h2 : Nat} {q1 q2 t : Nat → Nat} {F : Nat → Nat → Nat → Int32} {f : Nat → Nat → Int32} : (cX10 B h2 q2 f)[8]? = some ((G0 B h1 h2 q1 q2 t).2.2 106, zcell (G0 B h1 h2 q1 q2 t) (M0 F f) 106) := rfl
theorem m0_107 {B : bG} {h1 h2 : Nat} {q1 q2 t : Nat → Nat} {F : Nat → Nat → Nat → Int32} {f : Nat → Nat → Int32} : (cX10 B h2 q2 f)[9]? = some ((G0 B h1 h2 q1 q2 t).2.2 107, zcell (G0 B h1 h2 q1 q2 t) (M0 F f) 107) := rfl
theorem m0_108 {B : bG} {h1 h2 : Nat} {q1 q2 t : Nat → Nat} {F : Nat → Nat → Nat → Int32} {f : Nat → Nat → Int32} : (cX10 B h2 q2 f)[10]? = some ((G0 B h1 h2 q1 q2 t).2.2 108, zcell (G0 B h1 h2 q1 q2 t) (M0 F f) 108) := rfl
theorem m0_109 {B : bG} {h1 h2 : Nat} {q1 q2 t : Nat → Nat} {F : Nat → Nat → Nat → Int32} {f : Nat → Nat → Int32} : (cX10 B h2 q2 f)[11]? = some ((G0 B h1 h2 q1 q2 t).2.2 109, zcell (G0 B h1 h2 q1 q2 t) (M0 F f) 109) := rfl
theorem m0_110 {B : bG} {h1 h2 : Nat} {q1 q2 t : Nat → Nat} {F : Nat → Nat → Nat → Int32} {f : Nat → Nat → Int32} : (cX10 B h2 q2 f)[12]? = some ((G0 B h1 h2 q1 q2 t).2.2 110, zcell (G0 B h1 h2 q1 q2 t) (M0 F f) 110) := rfl
theorem m0_111 {B : bG} {h1 h2 : Nat} {q1 q2 t : Nat → Nat} {F : Nat → Nat → Nat → Int32} {f : Nat → Nat → Int32} : (cX10 B h2 q2 f)[13]? = some ((G0 B h1 h2 q1 q2 t).2.2 111, zcell (G0 B h1 h2 q1 q2 t) (M0 F f) 111) := rfl
theorem m0_112 {B : bG} {h1 h2 : Nat} {q1 q2 t : Nat → Nat} {F : Nat → Nat → Nat → Int32} {f : Nat → Nat → Int32} : (cX10 B h2 q2 f)[14]? = some ((G0 B h1 h2 q1 q2 t).2.2 112, zcell (G0 B h1 h2 q1 q2 t) (M0 F f) 112) := rfl
theorem m0_113 {B : bG} {h1 h2 : Nat} {q1 q2 t : Nat → Nat} {F : Nat → Nat → Nat → Int32} {f : Nat → Nat → Int32} : (cX10 B h2 q2 f)[15]? = some ((G0 B h1 h2 q1 q2 t).2.2 113, zcell (G0 B h1 h2 q1 q2 t) (M0 F f) 113) := rfl
theorem m0_114 {B : bG} {h1 h2 : Nat} {q1 q2 t : Nat → Nat} {F : Nat → Nat → Nat → Int32} {f : Nat → Nat → Int32} : (cX10 B h2 q2 f)[16]? = some ((G0 B h1 h2 q1 q2 t).2.2 114, zcell (G0 B h1 h2 q1 q2 t) (M0 F f) 114) := rfl
theorem m0_115 {B : bG} {h1 h2 : Nat} {q1 q2 t : Nat → Nat} {F : Nat → Nat → Nat → Int32} {f : Nat → Nat → Int32} : (cX10 B h2 q2 f)[17]? = some ((G0 B h1 h2 q1 q2 t).2.2 115, zcell (G0 B h1 h2 q1 q2 t) (M0 F f) 115) := rfl
theorem m0_116 {B : bG} {h1 h2 : Nat} {q1 q2 t : Nat → Nat} {F : Nat → Nat → Nat → Int32} {f : Nat → Nat → Int32} : (cX10 B h2 q2 f)[18]? = some ((G0 B h1 h2 q1 q2 t).2.2 116, zcell (G0 B h1 h2 q1 q2 t) (M0 F f) 116) := rfl
theorem m0_117 {B : bG} {h1 h2 : Nat} {q1 q2 t : Nat → Nat} {F : Nat → Nat → Nat → Int32} {f : Nat → Nat → Int32} : (cX10 B h2 q2 f)[19]? = some ((G0 B h1 h2 q1 q2 t).2.2 117, zcell (G0 B h1 h2 q1 q2 t) (M0 F f) 117) := rfl
theorem m0_118 {B : bG} {h1 h2 : Nat} {q1 q2 t : Nat → Nat} {F : Nat → Nat → Nat → Int32} {f : Nat → Nat → Int32} : (cX10 B h2 q2 f)[20]? = some ((G0 B h1 h2 q1 q2 t).2.2 118, zcell (G0 B h1 h2 q1 q2 t) (M0 F f) 118) := rfl
theorem m0_119 {B : bG} {h1 h2 : Nat} {q1 q2 t : Nat → Nat} {F : Nat → Nat → Nat → Int32} {f : Nat → Nat → Int32} : (cX10 B h2 q2 f)[21]? = some ((G0 B h1 h2 q1 q2 t).2.2 119, zcell (G0 B h1 h2 q1 q2 t) (M0 F f) 119) := rfl
theorem m0_120 {B : bG} {h1 h2 : Nat} {q1 q2 t : Nat → Nat} {F : Nat → Nat → Nat → Int32} {f : Nat → Nat → Int32} : (cX10 B h2 q2 f)[22]? = some ((G0 B h1 h2 q1 q2 t).2.2 120, zcell (G0 B h1 h2 q1 q2 t) (M0 F f) 120) := rfl
theorem m0_121 {B : bG} {h1 h2 : Nat} {q1 q2 t : Nat → Nat} {F : Nat → Nat → Nat → Int32} {f : Nat → Nat → Int32} : (cX10 B h2 q2 f)[23]? = some ((G0 B h1 h2 q1 q2 t).2.2 121, zcell (G0 B h1 h2 q1 q2 t) (M0 F f) 121) := rfl
theorem m0_122 {B : bG} {h1 h2 : Nat} {q1 q2 t : Nat → Nat} {F : Nat → Nat → Nat → Int32} {f : Nat → Nat → Int32} : (cX10 B h2 q2 f)[24]? = some ((G0 B h1 h2 q1 q2 t).2.2 122, zcell (G0 B h1 h2 q1 q2 t) (M0 F f) 122) := rfl
theorem m0_123 {B : bG} {h1 h2 : Nat} {q1 q2 t : Nat → Nat} {F : Nat → Nat → Nat → Int32} {f : Nat → Nat → Int32} : (cX10 B h2 q2 f)[25]? = some ((G0 B h1 h2 q1 q2 t).2.2 123, zcell (G0 B h1 h2 q1 q2 t) (M0 F f) 123) := rfl
theorem m0_124 {B : bG} {h1 h2 : Nat} {q1 q2 t : Nat → Nat} {F : Nat → Nat → Nat → Int32} {f : Nat → Nat → Int32} : (cX10 B h2 q2 f)[26]? = some ((G0 B h1 h2 q1 q2 t).2.2 124, zcell (G0 B h1 h2 q1 q2 t) (M0 F f) 124) := rfl
theorem m0_125 {B : bG} {h1 h2 : Nat} {q1 q2 t : Nat → Nat} {F : Nat → Nat → Nat → Int32} {f : Nat → Nat → Int32} : (cX10 B h2 q2 f)[27]? = some ((G0 B h1 h2 q1 q2 t).2.2 125, zcell (G0 B h1 h2 q1 q2 t) (M0 F f) 125) := rfl
theorem m0_126 {B : bG} {h1 h2 : Nat} {q1 q2 t : Nat → Nat} {F : Nat → Nat → Nat → Int32} {f : Nat → Nat → Int32} : (cX10 B h2 q2 f)[28]? = some ((G0 B h1 h2 q1 q2 t).2.2 126, zcell (G0 B h1 h2 q1 q2 t) (M0 F f) 126) := rfl
theorem m0_127 {B : bG} {h1 h2 : Nat} {q1 q2 t : Nat → Nat} {F : Nat → Nat → Nat → Int32} {f : Nat → Nat → Int32} : (cX10 B h2 q2 f)[29]? = some ((G0 B h1 h2 q1 q2 t).2.2 127, zcell (G0 B h1 h2 q1 q2 t) (M0 F f) 127) := rfl
theorem m0_128 {B : bG} {h1 h2 : Nat} {q1 q2 t : Nat → Nat} {F : Nat → Nat → Nat → Int32} {f : Nat → Nat → Int32} : (cX10 B h2 q2 f)[30]? = some ((G0 B h1 h2 q1 q2 t).2.2 128, zcell (G0 B h1 h2 q1 q2 t) (M0 F f) 128) := rfl
theorem m0_129 {B : bG} {h1 h2 : Nat} {q1 q2 t : Nat → Nat} {F : Nat → Nat → Nat → Int32} {f : Nat → Nat → Int32} : (cX10 B h2 q2 f)[31]? = some ((G0 B h1 h2 q1 q2 t).2.2 129, zcell (G0 B h1 h2 q1 q2 t) (M0 F f) 129) := rfl
theorem m0_130 {B : bG} {h1 h2 : Nat} {q1 q2 t : Nat → Nat} {F : Nat → Nat → Nat → Int32} {f : Nat → Nat → Int32} : (cX10 B h2 q2 f)[32]? = some ((G0 B h1 h2 q1 q2 t).2.2 130, zcell (G0 B h1 h2 q1 q2 t) (M0 F f) 130) := rfl
theorem m0_131 {B : bG} {h1 h2 : Nat} {q1 q2 t : Nat → Nat} {F : Nat → Nat → Nat → Int32} {f : Nat → Nat → Int32} : (cX10 B h2 q2 f)[33]? = some ((G0 B h1 h2 q1 q2 t).2.2 131, zcell (G0 B h1 h2 q1 q2 t) (M0 F f) 131) := rfl
theorem m0_132 {B : bG} {h1 h2 : Nat} {q1 q2 t : Nat → Nat} {F : Nat → Nat → Nat → Int32} {f : Nat → Nat → Int32} : (cX10 B h2 q2 f)[34]? = some ((G0 B h1 h2 q1 q2 t).2.2 132, zcell (G0 B h1 h2 q1 q2 t) (M0 F f) 132) := rfl
theorem m0_133 {B : bG} {h1 h2 : Nat} {q1 q2 t : Nat → Nat} {F : Nat → Nat → Nat → Int32} {f : Nat → Nat → Int32} : (cX10 B h2 q2 f)[35]? = some ((G0 B h1 h2 q1 q2 t).2.2 133, zcell (G0 B h1 h2 q1 q2 t) (M0 F f) 133) := rfl
theorem m0_134 {B : bG} {h1 h2 : Nat} {q1 q2 t : Nat → Nat} {F : Nat → Nat → Nat → Int32} {f : Nat → Nat → Int32} : (cX10 B h2 q2 f)[36]? = some ((G0 B h1 h2 q1 q2 t).2.2 134, zcell (G0 B h1 h2 q1 q2 t) (M0 F f) 134) := rfl
theorem m0_135 {B : bG} {h1 h2 : Nat} {q1 q2 t : Nat → Nat} {F : Nat → Nat → Nat → Int32} {f : Nat → Nat → Int32} : (cX10 B h2 q2 f)[37]? = some ((G0 B h1 h2 q1 q2 t).2.2 135, zcell (G0 B h1 h2 q1 q2 t) (M0 F f) 135) := rfl
theorem m0_136 {B : bG} {h1 h2 : Nat} {q1 q2 t : Nat → Nat} {F : Nat → Nat → Nat → Int32} {f : Nat → Nat → Int32} : (cX10 B h2 q2 f)[38]? = some ((G0 B h1 h2 q1 q2 t).2.2 136, zcell (G0 B h1 h2 q1 q2 t) (M0 F f) 136) := rfl
theorem m0_137 {B : bG} {h1 h2 : Nat} {q1 q2 t : Nat → Nat} {F : Nat → Nat → Nat → Int32} {f : Nat → Nat → Int32} : (cX10 B h2 q2 f)[39]? = some ((G0 B h1 h2 q1 q2 t).2.2 137, zcell (G0 B h1 h2 q1 q2 t) (M0 F f) 137) := rfl
theorem m0_138 {B : bG} {h1 h2 : Nat} {q1 q2 t : Nat → Nat} {F : Nat → Nat → Nat → Int32} {f : Nat → Nat → Int32} : (cX10 B h2 q2 f)[40]? = some ((G0 B h1 h2 q1 q2 t).2.2 138, zcell (G0 B h1 h2 q1 q2 t) (M0 F f) 138) := rfl
theorem m0_139 {B : bG} {h1 h2 : Nat} {q1 q2 t : Nat → Nat} {F : Nat → Nat → Nat → Int32} {f : Nat → Nat → Int32} : (cX10 B h2 q2 f)[41]? = some ((G0 B h1 h2 q1 q2 t).2.2 139, zcell (G0 B h1 h2 q1 q2 t) (M0 F f) 139) := rfl
theorem m0_140 {B : bG} {h1 h2 : Nat} {q1 q2 t : Nat → Nat} {F : Nat → Nat → Nat → Int32} {f : Nat → Nat → Int32} : (cX10 B h2 q2 f)[42]? = some ((G0 B h1 h2 q1 q2 t).2.2 140, zcell (G0 B h1 h2 q1 q2 t) (M0 F f) 140) := rfl
theorem m0_141 {B : bG} {h1 h2 : Nat} {q1 q2 t : Nat → Nat} {F : Nat → Nat → Nat → Int32} {f : Nat → Nat → Int32} : (cX10 B h2 q2 f)[43]? = some ((G0 B h1 h2 q1 q2 t).2.2 141, zcell (G0 B h1 h2 q1 q2 t) (M0 F f) 141) := rfl
def m0p (i : Nat) : Nat := ([0, 1, 95, 96, 97, 2, 3, 4, 5, 6, 7, 8, 9, 10, 11, 12, 13, 14, 15, 16, 17, 18, 19, 20, 21, 22, 23, 24, 25, 26, 27, 28, 29, 30, 31, 32, 33, 34, 35, 36, 37, 38, 39, 40, 41, 42, 43, 44, 50, 51, 45, 47, 48, 49, 46, 52, 53, 54, 55, 56, 57, 58, 59, 60, 61, 62, 63, 64, 65, 66, 67, 68, 69, 70, 71, 72, 73, 74, 75, 76, 77, 78, 79, 80, 81, 82, 83, 84, 85, 86, 87, 88, 89, 90, 91, 92, 93, 94, 98, 99, 100, 101, 102, 103, 104, 105, 106, 107, 108, 109, 110, 111, 112, 113, 114, 115, 116, 117, 118, 119, 120, 121, 122, 123, 124, 125, 126, 127, 128, 129, 130, 131, 132, 133, 134, 135, 136, 137, 138, 139, 140, 141] : List Nat).getD i 0
theorem m0p_inj : ∀ i, i < 142 → ∀ j, j < 142 → m0p i = m0p j → i = j := by decide +kernel
theorem m0p_lt : ∀ i, i < 142 → m0p i < 142 := by decide +kernel
def cXA (B : bG) (h1 h2 : Nat) (q1 q2 : Nat → Nat) (F : Nat → Nat → Nat → Int32) (f : Nat → Nat → Int32) : va_W := cX9 B h1 q1 F ++ cX10 B h2 q2 f
theorem cX9_len {B : bG} {h1 : Nat} {q1 : Nat → Nat} {F : Nat → Nat → Nat → Int32} : (cX9 B h1 q1 F).length = 98 := rfl
theorem m0c_0 {B : bG} {h1 h2 : Nat} {q1 q2 t : Nat → Nat} {F : Nat → Nat → Nat → Int32} {f : Nat → Nat → Int32} (i : Nat) (h : 0 ≤ i) (h2' : i < 10) : (cXA B h1 h2 q1 q2 F f)[m0p i]? = some ((G0 B h1 h2 q1 q2 t).2.2 i, zcell (G0 B h1 h2 q1 q2 t) (M0 F f) i) := by
    rcases (show i = 0 ∨ i = 1 ∨ i = 2 ∨ i = 3 ∨ i = 4 ∨ i = 5 ∨ i = 6 ∨ i = 7 ∨ i = 8 ∨ i = 9 by omega) with rfl | rfl | rfl | rfl | rfl | rfl | rfl | rfl | rfl | rfl
    · exact (zb_hw m0_0)
    · exact (zb_hw m0_1)
    · exact (zb_hw m0_2)
    · exact (zb_hw m0_3)
    · exact (zb_hw m0_4)
    · exact (zb_hw m0_5)
    · exact (zb_hw m0_6)
    · exact (zb_hw m0_7)
    · exact (zb_hw m0_8)
    · exact (zb_hw m0_9)
theorem m0c_10 {B : bG} {h1 h2 : Nat} {q1 q2 t : Nat → Nat} {F : Nat → Nat → Nat → Int32} {f : Nat → Nat → Int32} (i : Nat) (h : 10 ≤ i) (h2' : i < 20) : (cXA B h1 h2 q1 q2 F f)[m0p i]? = some ((G0 B h1 h2 q1 q2 t).2.2 i, zcell (G0 B h1 h2 q1 q2 t) (M0 F f) i) := by
    rcases (show i = 10 ∨ i = 11 ∨ i = 12 ∨ i = 13 ∨ i = 14 ∨ i = 15 ∨ i = 16 ∨ i = 17 ∨ i = 18 ∨ i = 19 by omega) with rfl | rfl | rfl | rfl | rfl | rfl | rfl | rfl | rfl | rfl
    · exact (zb_hw m0_10)
    · exact (zb_hw m0_11)
    · exact (zb_hw m0_12)
    · exact (zb_hw m0_13)
    · exact (zb_hw m0_14)
    · exact (zb_hw m0_15)
    · exact (zb_hw m0_16)
    · exact (zb_hw m0_17)
    · exact (zb_hw m0_18)
    · exact (zb_hw m0_19)
theorem m0c_20 {B : bG} {h1 h2 : Nat} {q1 q2 t : Nat → Nat} {F : Nat → Nat → Nat → Int32} {f : Nat → Nat → Int32} (i : Nat) (h : 20 ≤ i) (h2' : i < 30) : (cXA B h1 h2 q1 q2 F f)[m0p i]? = some ((G0 B h1 h2 q1 q2 t).2.2 i, zcell (G0 B h1 h2 q1 q2 t) (M0 F f) i) := by
    rcases (show i = 20 ∨ i = 21 ∨ i = 22 ∨ i = 23 ∨ i = 24 ∨ i = 25 ∨ i = 26 ∨ i = 27 ∨ i = 28 ∨ i = 29 by omega) with rfl | rfl | rfl | rfl | rfl | rfl | rfl | rfl | rfl | rfl
    · exact (zb_hw m0_20)
    · exact (zb_hw m0_21)
    · exact (zb_hw m0_22)
    · exact (zb_hw m0_23)
    · exact (zb_hw m0_24)
    · exact (zb_hw m0_25)
    · exact (zb_hw m0_26)
    · exact (zb_hw m0_27)
    · exact (zb_hw m0_28)
    · exact (zb_hw m0_29)
theorem m0c_30 {B : bG} {h1 h2 : Nat} {q1 q2 t : Nat → Nat} {F : Nat → Nat → Nat → Int32} {f : Nat → Nat → Int32} (i : Nat) (h : 30 ≤ i) (h2' : i < 40) : (cXA B h1 h2 q1 q2 F f)[m0p i]? = some ((G0 B h1 h2 q1 q2 t).2.2 i, zcell (G0 B h1 h2 q1 q2 t) (M0 F f) i) := by
    rcases (show i = 30 ∨ i = 31 ∨ i = 32 ∨ i = 33 ∨ i = 34 ∨ i = 35 ∨ i = 36 ∨ i = 37 ∨ i = 38 ∨ i = 39 by omega) with rfl | rfl | rfl | rfl | rfl | rfl | rfl | rfl | rfl | rfl
    · exact (zb_hw m0_30)
    · exact (zb_hw m0_31)
    · exact (zb_hw m0_32)
    · exact (zb_hw m0_33)
    · exact (zb_hw m0_34)
    · exact (zb_hw m0_35)
    · exact (zb_hw m0_36)
    · exact (zb_hw m0_37)
    · exact (zb_hw m0_38)
    · exact (zb_hw m0_39)
theorem m0c_40 {B : bG} {h1 h2 : Nat} {q1 q2 t : Nat → Nat} {F : Nat → Nat → Nat → Int32} {f : Nat → Nat → Int32} (i : Nat) (h : 40 ≤ i) (h2' : i < 50) : (cXA B h1 h2 q1 q2 F f)[m0p i]? = some ((G0 B h1 h2 q1 q2 t).2.2 i, zcell (G0 B h1 h2 q1 q2 t) (M0 F f) i) := by
    rcases (show i = 40 ∨ i = 41 ∨ i = 42 ∨ i = 43 ∨ i = 44 ∨ i = 45 ∨ i = 46 ∨ i = 47 ∨ i = 48 ∨ i = 49 by omega) with rfl | rfl | rfl | rfl | rfl | rfl | rfl | rfl | rfl | rfl
    · exact (zb_hw m0_40)
    · exact (zb_hw m0_41)
    · exact (zb_hw m0_42)
    · exact (zb_hw m0_43)
    · exact (zb_hw m0_44)
    · exact (zb_hw m0_45)
    · exact (zb_hw m0_46)
    · exact (zb_hw m0_47)
    · exact (zb_hw m0_48)
    · exact (zb_hw m0_49)
theorem m0c_50 {B : bG} {h1 h2 : Nat} {q1 q2 t : Nat → Nat} {F : Nat → Nat → Nat → Int32} {f : Nat → Nat → Int32} (i : Nat) (h : 50 ≤ i) (h2' : i < 60) : (cXA B h1 h2 q1 q2 F f)[m0p i]? = some ((G0 B h1 h2 q1 q2 t).2.2 i, zcell (G0 B h1 h2 q1 q2 t) (M0 F f) i) := by
    rcases (show i = 50 ∨ i = 51 ∨ i = 52 ∨ i = 53 ∨ i = 54 ∨ i = 55 ∨ i = 56 ∨ i = 57 ∨ i = 58 ∨ i = 59 by omega) with rfl | rfl | rfl | rfl | rfl | rfl | rfl | rfl | rfl | rfl
    · exact (zb_hw m0_50)
    · exact (zb_hw m0_51)
    · exact (zb_hw m0_52)
    · exact (zb_hw m0_53)
    · exact (zb_hw m0_54)
    · exact (zb_hw m0_55)
    · exact (zb_hw m0_56)
    · exact (zb_hw m0_57)
    · exact (zb_hw m0_58)
    · exact (zb_hw m0_59)
theorem m0c_60 {B : bG} {h1 h2 : Nat} {q1 q2 t : Nat → Nat} {F : Nat → Nat → Nat → Int32} {f : Nat → Nat → Int32} (i : Nat) (h : 60 ≤ i) (h2' : i < 70) : (cXA B h1 h2 q1 q2 F f)[m0p i]? = some ((G0 B h1 h2 q1 q2 t).2.2 i, zcell (G0 B h1 h2 q1 q2 t) (M0 F f) i) := by
    rcases (show i = 60 ∨ i = 61 ∨ i = 62 ∨ i = 63 ∨ i = 64 ∨ i = 65 ∨ i = 66 ∨ i = 67 ∨ i = 68 ∨ i = 69 by omega) with rfl | rfl | rfl | rfl | rfl | rfl | rfl | rfl | rfl | rfl
    · exact (zb_hw m0_60)
    · exact (zb_hw m0_61)
    · exact (zb_hw m0_62)
    · exact (zb_hw m0_63)
    · exact (zb_hw m0_64)
    · exact (zb_hw m0_65)
    · exact (zb_hw m0_66)
    · exact (zb_hw m0_67)
    · exact (zb_hw m0_68)
    · exact (zb_hw m0_69)
theorem m0c_70 {B : bG} {h1 h2 : Nat} {q1 q2 t : Nat → Nat} {F : Nat → Nat → Nat → Int32} {f : Nat → Nat → Int32} (i : Nat) (h : 70 ≤ i) (h2' : i < 80) : (cXA B h1 h2 q1 q2 F f)[m0p i]? = some ((G0 B h1 h2 q1 q2 t).2.2 i, zcell (G0 B h1 h2 q1 q2 t) (M0 F f) i) := by
    rcases (show i = 70 ∨ i = 71 ∨ i = 72 ∨ i = 73 ∨ i = 74 ∨ i = 75 ∨ i = 76 ∨ i = 77 ∨ i = 78 ∨ i = 79 by omega) with rfl | rfl | rfl | rfl | rfl | rfl | rfl | rfl | rfl | rfl
    · exact (zb_hw m0_70)
    · exact (zb_hw m0_71)
    · exact (zb_hw m0_72)
    · exact (zb_hw m0_73)
    · exact (zb_hw m0_74)
    · exact (zb_hw m0_75)
    · exact (zb_hw m0_76)
    · exact (zb_hw m0_77)
    · exact (zb_hw m0_78)
    · exact (zb_hw m0_79)
theorem m0c_80 {B : bG} {h1 h2 : Nat} {q1 q2 t : Nat → Nat} {F : Nat → Nat → Nat → Int32} {f : Nat → Nat → Int32} (i : Nat) (h : 80 ≤ i) (h2' : i < 90) : (cXA B h1 h2 q1 q2 F f)[m0p i]? = some ((G0 B h1 h2 q1 q2 t).2.2 i, zcell (G0 B h1 h2 q1 q2 t) (M0 F f) i) := by
    rcases (show i = 80 ∨ i = 81 ∨ i = 82 ∨ i = 83 ∨ i = 84 ∨ i = 85 ∨ i = 86 ∨ i = 87 ∨ i = 88 ∨ i = 89 by omega) with rfl | rfl | rfl | rfl | rfl | rfl | rfl | rfl | rfl | rfl
    · exact (zb_hw m0_80)
    · exact (zb_hw m0_81)
    · exact (zb_hw m0_82)
    · exact (zb_hw m0_83)
    · exact (zb_hw m0_84)
    · exact (zb_hw m0_85)
    · exact (zb_hw m0_86)
    · exact (zb_hw m0_87)
    · exact (zb_hw m0_88)
    · exact (zb_hw m0_89)
theorem m0c_90 {B : bG} {h1 h2 : Nat} {q1 q2 t : Nat → Nat} {F : Nat → Nat → Nat → Int32} {f : Nat → Nat → Int32} (i : Nat) (h : 90 ≤ i) (h2' : i < 100) : (cXA B h1 h2 q1 q2 F f)[m0p i]? = some ((G0 B h1 h2 q1 q2 t).2.2 i, zcell (G0 B h1 h2 q1 q2 t) (M0 F f) i) := by
    rcases (show i = 90 ∨ i = 91 ∨ i = 92 ∨ i = 93 ∨ i = 94 ∨ i = 95 ∨ i = 96 ∨ i = 97 ∨ i = 98 ∨ i = 99 by omega) with rfl | rfl | rfl | rfl | rfl | rfl | rfl | rfl | rfl | rfl
    · exact (zb_hw m0_90)
    · exact (zb_hw m0_91)
    · exact (zb_hw m0_92)
    · exact (zb_hw m0_93)
    · exact (zb_hw m0_94)
    · exact (zb_hw m0_95)
    · exact (zb_hw m0_96)
    · exact (zb_hw m0_97)
    · exact (zb_hj (w := cX9 B h1 q1 F) m0_98)
    · exact (zb_hj (w := cX9 B h1 q1 F) m0_99)
theorem m0c_100 {B : bG} {h1 h2 : Nat} {q1 q2 t : Nat → Nat} {F : Nat → Nat → Nat → Int32} {f : Nat → Nat → Int32} (i : Nat) (h : 100 ≤ i) (h2' : i < 110) : (cXA B h1 h2 q1 q2 F f)[m0p i]? = some ((G0 B h1 h2 q1 q2 t).2.2 i, zcell (G0 B h1 h2 q1 q2 t) (M0 F f) i) := by
    rcases (show i = 100 ∨ i = 101 ∨ i = 102 ∨ i = 103 ∨ i = 104 ∨ i = 105 ∨ i = 106 ∨ i = 107 ∨ i = 108 ∨ i = 109 by omega) with rfl | rfl | rfl | rfl | rfl | rfl | rfl | rfl | rfl | rfl
    · exact (zb_hj (w := cX9 B h1 q1 F) m0_100)
    · exact (zb_hj (w := cX9 B h1 q1 F) m0_101)
    · exact (zb_hj (w := cX9 B h1 q1 F) m0_102)
    · exact (zb_hj (w := cX9 B h1 q1 F) m0_103)
    · exact (zb_hj (w := cX9 B h1 q1 F) m0_104)
    · exact (zb_hj (w := cX9 B h1 q1 F) m0_105)
    · exact (zb_hj (w := cX9 B h1 q1 F) m0_106)
    · exact (zb_hj (w := cX9 B h1 q1 F) m0_107)
    · exact (zb_hj (w := cX9 B h1 q1 F) m0_108)
    · exact (zb_hj (w := cX9 B h1 q1 F) m0_109)
theorem m0c_110 {B : bG} {h1 h2 : Nat} {q1 q2 t : Nat → Nat} {F : Nat → Nat → Nat → Int32} {f : Nat → Nat → Int32} (i : Nat) (h : 110 ≤ i) (h2' : i < 120) : (cXA B h1 h2 q1 q2 F f)[m0p i]? = some ((G0 B h1 h2 q1 q2 t).2.2 i, zcell (G0 B h1 h2 q1 q2 t) (M0 F f) i) := by
    rcases (show i = 110 ∨ i = 111 ∨ i = 112 ∨ i = 113 ∨ i = 114 ∨ i = 115 ∨ i = 116 ∨ i = 117 ∨ i = 118 ∨ i = 119 by omega) with rfl | rfl | rfl | rfl | rfl | rfl | rfl | rfl | rfl | rfl
    · exact (zb_hj (w := cX9 B h1 q1 F) m0_110)
    · exact (zb_hj (w := cX9 B h1 q1 F) m0_111)
    · exact (zb_hj (w := cX9 B h1 q1 F) m0_112)
    · exact (zb_hj (w := cX9 B h1 q1 F) m0_113)
    · exact (zb_hj (w := cX9 B h1 q1 F) m0_114)
    · exact (zb_hj (w := cX9 B h1 q1 F) m0_115)
    · exact (zb_hj (w := cX9 B h1 q1 F) m0_116)
    · exact (zb_hj (w := cX9 B h1 q1 F) m0_117)
    · exact (zb_hj (w := cX9 B h1 q1 F) m0_118)
    · exact (zb_hj (w := cX9 B h1 q1 F) m0_119)
theorem m0c_120 {B : bG} {h1 h2 : Nat} {q1 q2 t : Nat → Nat} {F : Nat → Nat → Nat → Int32} {f : Nat → Nat → Int32} (i : Nat) (h : 120 ≤ i) (h2' : i < 130) : (cXA B h1 h2 q1 q2 F f)[m0p i]? = some ((G0 B h1 h2 q1 q2 t).2.2 i, zcell (G0 B h1 h2 q1 q2 t) (M0 F f) i) := by
    rcases (show i = 120 ∨ i = 121 ∨ i = 122 ∨ i = 123 ∨ i = 124 ∨ i = 125 ∨ i = 126 ∨ i = 127 ∨ i = 128 ∨ i = 129 by omega) with rfl | rfl | rfl | rfl | rfl | rfl | rfl | rfl | rfl | rfl
    · exact (zb_hj (w := cX9 B h1 q1 F) m0_120)
    · exact (zb_hj (w := cX9 B h1 q1 F) m0_121)
    · exact (zb_hj (w := cX9 B h1 q1 F) m0_122)
    · exact (zb_hj (w := cX9 B h1 q1 F) m0_123)
    · exact (zb_hj (w := cX9 B h1 q1 F) m0_124)
    · exact (zb_hj (w := cX9 B h1 q1 F) m0_125)
    · exact (zb_hj (w := cX9 B h1 q1 F) m0_126)
    · exact (zb_hj (w := cX9 B h1 q1 F) m0_127)
    · exact (zb_hj (w := cX9 B h1 q1 F) m0_128)
    · exact (zb_hj (w := cX9 B h1 q1 F) m0_129)
theorem m0c_130 {B : bG} {h1 h2 : Nat} {q1 q2 t : Nat → Nat} {F : Nat → Nat → Nat → Int32} {f : Nat → Nat → Int32} (i : Nat) (h : 130 ≤ i) (h2' : i < 140) : (cXA B h1 h2 q1 q2 F f)[m0p i]? = some ((G0 B h1 h2 q1 q2 t).2.2 i, zcell (G0 B h1 h2 q1 q2 t) (M0 F f) i) := by
    rcases (show i = 130 ∨ i = 131 ∨ i = 132 ∨ i = 133 ∨ i = 134 ∨ i = 135 ∨ i = 136 ∨ i = 137 ∨ i = 138 ∨ i = 139 by omega) with rfl | rfl | rfl | rfl | rfl | rfl | rfl | rfl | rfl | rfl
    · exact (zb_hj (w := cX9 B h1 q1 F) m0_130)
    · exact (zb_hj (w := cX9 B h1 q1 F) m0_131)
    · exact (zb_hj (w := cX9 B h1 q1 F) m0_132)
    · exact (zb_hj (w := cX9 B h1 q1 F) m0_133)
    · exact (zb_hj (w := cX9 B h1 q1 F) m0_134)
    · exact (zb_hj (w := cX9 B h1 q1 F) m0_135)
    · exact (zb_hj (w := cX9 B h1 q1 F) m0_136)
    · exact (zb_hj (w := cX9 B h1 q1 F) m0_137)
    · exact (zb_hj (w := cX9 B h1 q1 F) m0_138)
    · exact (zb_hj (w := cX9 B h1 q1 F) m0_139)
theorem m0c_140 {B : bG} {h1 h2 : Nat} {q1 q2 t : Nat → Nat} {F : Nat → Nat → Nat → Int32} {f : Nat → Nat → Int32} (i : Nat) (h : 140 ≤ i) (h2' : i < 142) : (cXA B h1 h2 q1 q2 F f)[m0p i]? = some ((G0 B h1 h2 q1 q2 t).2.2 i, zcell (G0 B h1 h2 q1 q2 t) (M0 F f) i) := by
    rcases (show i = 140 ∨ i = 141 by omega) with rfl | rfl
    · exact (zb_hj (w := cX9 B h1 q1 F) m0_140)
    · exact (zb_hj (w := cX9 B h1 q1 F) m0_141)
theorem m0_all {B : bG} {h1 h2 : Nat} {q1 q2 t : Nat → Nat} {F : Nat → Nat → Nat → Int32} {f : Nat → Nat → Int32} (i : Nat) (h : i < 142) : (cXA B h1 h2 q1 q2 F f)[m0p i]? = some ((G0 B h1 h2 q1 q2 t).2.2 i, zcell (G0 B h1 h2 q1 q2 t) (M0 F f) i) := by
  by_cases c0 : i < 10
  · exact m0c_0 i (by omega) c0
  by_cases c10 : i < 20
  · exact m0c_10 i (by omega) c10
  by_cases c20 : i < 30
  · exact m0c_20 i (by omega) c20
  by_cases c30 : i < 40
  · exact m0c_30 i (by omega) c30
  by_cases c40 : i < 50
  · exact m0c_40 i (by omega) c40
  by_cases c50 : i < 60
  · exact m0c_50 i (by omega) c50
  by_cases c60 : i < 70
  · exact m0c_60 i (by omega) c60
  by_cases c70 : i < 80
  · exact m0c_70 i (by omega) c70
  by_cases c80 : i < 90
  · exact m0c_80 i (by omega) c80
  by_cases c90 : i < 100
  · exact m0c_90 i (by omega) c90
  by_cases c100 : i < 110
  · exact m0c_100 i (by omega) c100
  by_cases c110 : i < 120
  · exact m0c_110 i (by omega) c110
  by_cases c120 : i < 130
  · exact m0c_120 i (by omega) c120
  by_cases c130 : i < 140
  · exact m0c_130 i (by omega) c130
  by_cases c140 : i < 142
  · exact m0c_140 i (by omega) c140
  exact absurd h c140
