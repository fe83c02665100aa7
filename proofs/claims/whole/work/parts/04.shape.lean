abbrev zS : Type := (Nat × Nat × (Nat → Option (Option Nat))) ⊕ (Nat × Nat)
/-- the table of a shape's fields: none an int or boolean, some none a reference that changes, some (some j) the cell j for ever -/
def zft (l : List (Option (Option Nat))) : Nat → Option (Option Nat) := fun k => l.getD k none
def zsL : List zS := [.inl (8, 17, zft [some (some 1), none, some none, some none, some (some 47), none, none, some (some 55), some (some 65), some (some 75), none, some (some 85), some (some 89), some (some 95), some (some 2), some (some 3), some (some 4)]),
  .inr (2, 700),
  .inr (0, 4),
  .inr (0, 4),
  .inr (0, 6),
  .inl (3, 17, zft [none, some (some 6), some (some 7), some (some 8), some (some 9), none, some (some 10), some (some 11), some (some 12), some (some 13), none, some (some 14), some (some 15), some (some 16), some (some 17), some (some 18), some (some 19)]),
  .inr (0, 6),
  .inr (0, 6),
  .inr (0, 6),
  .inr (0, 6),
  .inr (0, 8),
  .inr (0, 8),
  .inr (0, 8),
  .inr (0, 8),
  .inr (0, 10),
  .inr (0, 10),
  .inr (0, 10),
  .inr (0, 5),
  .inr (1, 5),
  .inl (1, 8, zft [none, none, some (some 20), some (some 21), some (some 22), some (some 23), some (some 24), some (some 25)]),
  .inr (0, 3),
  .inr (0, 3),
  .inr (0, 64),
  .inr (0, 64),
  .inr (3, 7),
  .inr (3, 64),
  .inl (3, 17, zft [none, some (some 27), some (some 28), some (some 29), some (some 30), none, some (some 31), some (some 32), some (some 33), some (some 34), none, some (some 35), some (some 36), some (some 37), some (some 38), some (some 39), some (some 40)]),
  .inr (0, 6),
  .inr (0, 6),
  .inr (0, 6),
  .inr (0, 6),
  .inr (0, 8),
  .inr (0, 8),
  .inr (0, 8),
  .inr (0, 8),
  .inr (0, 10),
  .inr (0, 10),
  .inr (0, 10),
  .inr (0, 5),
  .inr (1, 5),
  .inl (1, 8, zft [none, none, some (some 41), some (some 42), some (some 43), some (some 44), some (some 45), some (some 46)]),
  .inr (0, 3),
  .inr (0, 3),
  .inr (0, 64),
  .inr (0, 64),
  .inr (3, 7),
  .inr (3, 64),
  .inl (5, 14, zft [none, none, some (some 50), some none, none, none, none, none, some (some 48), some (some 49), none, none, none, none]),
  .inr (0, 72),
  .inr (0, 72),
  .inl (6, 7, zft [some none, none, none, none, some (some 51), some (some 52), some (some 53)]),
  .inr (0, 701),
  .inr (0, 701),
  .inr (0, 701),
  .inr (2, 0),
  .inl (7, 16, zft [some none, some (some 56), some (some 57), some (some 58), some (some 59), some (some 60), some (some 61), some (some 62), some (some 63), some (some 64), none, none, none, none, none, none]),
  .inr (0, 6),
  .inr (0, 6),
  .inr (0, 6),
  .inr (0, 6),
  .inr (0, 6),
  .inr (0, 6),
  .inr (1, 6),
  .inr (0, 8),
  .inr (0, 8),
  .inl (7, 16, zft [some none, some (some 66), some (some 67), some (some 68), some (some 69), some (some 70), some (some 71), some (some 72), some (some 73), some (some 74), none, none, none, none, none, none]),
  .inr (0, 6),
  .inr (0, 6),
  .inr (0, 6),
  .inr (0, 6),
  .inr (0, 6),
  .inr (0, 6),
  .inr (1, 6),
  .inr (0, 8),
  .inr (0, 8),
  .inl (7, 16, zft [some none, some (some 76), some (some 77), some (some 78), some (some 79), some (some 80), some (some 81), some (some 82), some (some 83), some (some 84), none, none, none, none, none, none]),
  .inr (0, 6),
  .inr (0, 6),
  .inr (0, 6),
  .inr (0, 6),
  .inr (0, 6),
  .inr (0, 6),
  .inr (1, 6),
  .inr (0, 8),
  .inr (0, 8),
  .inl (0, 4, zft [none, some (some 86), some (some 87), some (some 88)]),
  .inr (0, 20),
  .inr (0, 20),
  .inr (0, 20),
  .inl (4, 7, zft [none, none, some (some 90), some (some 91), some (some 92), some (some 93), some (some 94)]),
  .inr (0, 24),
  .inr (0, 24),
  .inr (1, 24),
  .inr (0, 24),
  .inr (1, 24),
  .inl (2, 2, zft [some (some 96), some (some 97)]),
  .inr (0, 1792),
  .inr (0, 6),
  .inl (9, 68, zft [none, some (some 99), none, some (some 100), some (some 101), some (some 102), some (some 103), some (some 104), some (some 105), some (some 106), some (some 107), some (some 108), some (some 109), some (some 110), some (some 111), some (some 112), some (some 113), some (some 114), some (some 115), none, none, none, none, none, none, none, none, none, none, none, none, none, some (some 116), some (some 117), none, some (some 118), some (some 119), some (some 120), some (some 121), some (some 122), some (some 123), some (some 124), some (some 125), some (some 126), some (some 127), some (some 128), some (some 129), some (some 130), some (some 131), none, none, none, none, none, some (some 132), some (some 133), some (some 134), none, some (some 135), some (some 136), none, none, none, some (some 137), some (some 138), some (some 139), some (some 140), some (some 141)]),
  .inr (0, 700),
  .inr (0, 18),
  .inr (0, 12),
  .inr (0, 12),
  .inr (0, 12),
  .inr (0, 12),
  .inr (0, 16),
  .inr (0, 16),
  .inr (0, 16),
  .inr (0, 16),
  .inr (0, 20),
  .inr (0, 20),
  .inr (0, 20),
  .inr (0, 6),
  .inr (0, 6),
  .inr (0, 128),
  .inr (0, 128),
  .inr (3, 7),
  .inr (3, 64),
  .inr (0, 23),
  .inr (0, 23),
  .inr (0, 23),
  .inr (0, 23),
  .inr (0, 23),
  .inr (0, 138),
  .inr (0, 138),
  .inr (0, 138),
  .inr (0, 138),
  .inr (0, 138),
  .inr (0, 138),
  .inr (0, 138),
  .inr (0, 184),
  .inr (0, 184),
  .inr (0, 6),
  .inr (0, 6),
  .inr (0, 6),
  .inr (0, 4),
  .inr (0, 4),
  .inr (0, 24),
  .inr (0, 24),
  .inr (1, 24),
  .inr (0, 24),
  .inr (1, 24)]
def zN : Nat := 142
def zs (i : Nat) : zS := zsL.getD i (.inr (2, 0))
theorem zs_0 : zs 0 = .inl (8, 17, zft [some (some 1), none, some none, some none, some (some 47), none, none, some (some 55), some (some 65), some (some 75), none, some (some 85), some (some 89), some (some 95), some (some 2), some (some 3), some (some 4)]) := rfl
theorem zs_1 : zs 1 = .inr (2, 700) := rfl
theorem zs_2 : zs 2 = .inr (0, 4) := rfl
theorem zs_3 : zs 3 = .inr (0, 4) := rfl
theorem zs_4 : zs 4 = .inr (0, 6) := rfl
theorem zs_5 : zs 5 = .inl (3, 17, zft [none, some (some 6), some (some 7), some (some 8), some (some 9), none, some (some 10), some (some 11), some (some 12), some (some 13), none, some (some 14), some (some 15), some (some 16), some (some 17), some (some 18), some (some 19)]) := rfl
theorem zs_6 : zs 6 = .inr (0, 6) := rfl
theorem zs_7 : zs 7 = .inr (0, 6) := rfl
theorem zs_8 : zs 8 = .inr (0, 6) := rfl
theorem zs_9 : zs 9 = .inr (0, 6) := rfl
theorem zs_10 : zs 10 = .inr (0, 8) := rfl
theorem zs_11 : zs 11 = .inr (0, 8) := rfl
theorem zs_12 : zs 12 = .inr (0, 8) := rfl
theorem zs_13 : zs 13 = .inr (0, 8) := rfl
theorem zs_14 : zs 14 = .inr (0, 10) := rfl
theorem zs_15 : zs 15 = .inr (0, 10) := rfl
theorem zs_16 : zs 16 = .inr (0, 10) := rfl
theorem zs_17 : zs 17 = .inr (0, 5) := rfl
theorem zs_18 : zs 18 = .inr (1, 5) := rfl
theorem zs_19 : zs 19 = .inl (1, 8, zft [none, none, some (some 20), some (some 21), some (some 22), some (some 23), some (some 24), some (some 25)]) := rfl
theorem zs_20 : zs 20 = .inr (0, 3) := rfl
theorem zs_21 : zs 21 = .inr (0, 3) := rfl
theorem zs_22 : zs 22 = .inr (0, 64) := rfl
theorem zs_23 : zs 23 = .inr (0, 64) := rfl
theorem zs_24 : zs 24 = .inr (3, 7) := rfl
theorem zs_25 : zs 25 = .inr (3, 64) := rfl
theorem zs_26 : zs 26 = .inl (3, 17, zft [none, some (some 27), some (some 28), some (some 29), some (some 30), none, some (some 31), some (some 32), some (some 33), some (some 34), none, some (some 35), some (some 36), some (some 37), some (some 38), some (some 39), some (some 40)]) := rfl
theorem zs_27 : zs 27 = .inr (0, 6) := rfl
theorem zs_28 : zs 28 = .inr (0, 6) := rfl
theorem zs_29 : zs 29 = .inr (0, 6) := rfl
theorem zs_30 : zs 30 = .inr (0, 6) := rfl
theorem zs_31 : zs 31 = .inr (0, 8) := rfl
theorem zs_32 : zs 32 = .inr (0, 8) := rfl
theorem zs_33 : zs 33 = .inr (0, 8) := rfl
theorem zs_34 : zs 34 = .inr (0, 8) := rfl
theorem zs_35 : zs 35 = .inr (0, 10) := rfl
theorem zs_36 : zs 36 = .inr (0, 10) := rfl
theorem zs_37 : zs 37 = .inr (0, 10) := rfl
theorem zs_38 : zs 38 = .inr (0, 5) := rfl
theorem zs_39 : zs 39 = .inr (1, 5) := rfl
theorem zs_40 : zs 40 = .inl (1, 8, zft [none, none, some (some 41), some (some 42), some (some 43), some (some 44), some (some 45), some (some 46)]) := rfl
theorem zs_41 : zs 41 = .inr (0, 3) := rfl
theorem zs_42 : zs 42 = .inr (0, 3) := rfl
theorem zs_43 : zs 43 = .inr (0, 64) := rfl
theorem zs_44 : zs 44 = .inr (0, 64) := rfl
theorem zs_45 : zs 45 = .inr (3, 7) := rfl
theorem zs_46 : zs 46 = .inr (3, 64) := rfl
theorem zs_47 : zs 47 = .inl (5, 14, zft [none, none, some (some 50), some none, none, none, none, none, some (some 48), some (some 49), none, none, none, none]) := rfl
theorem zs_48 : zs 48 = .inr (0, 72) := rfl
theorem zs_49 : zs 49 = .inr (0, 72) := rfl
theorem zs_50 : zs 50 = .inl (6, 7, zft [some none, none, none, none, some (some 51), some (some 52), some (some 53)]) := rfl
theorem zs_51 : zs 51 = .inr (0, 701) := rfl
theorem zs_52 : zs 52 = .inr (0, 701) := rfl
theorem zs_53 : zs 53 = .inr (0, 701) := rfl
theorem zs_54 : zs 54 = .inr (2, 0) := rfl
theorem zs_55 : zs 55 = .inl (7, 16, zft [some none, some (some 56), some (some 57), some (some 58), some (some 59), some (some 60), some (some 61), some (some 62), some (some 63), some (some 64), none, none, none, none, none, none]) := rfl
theorem zs_56 : zs 56 = .inr (0, 6) := rfl
theorem zs_57 : zs 57 = .inr (0, 6) := rfl
theorem zs_58 : zs 58 = .inr (0, 6) := rfl
theorem zs_59 : zs 59 = .inr (0, 6) := rfl
theorem zs_60 : zs 60 = .inr (0, 6) := rfl
theorem zs_61 : zs 61 = .inr (0, 6) := rfl
theorem zs_62 : zs 62 = .inr (1, 6) := rfl
theorem zs_63 : zs 63 = .inr (0, 8) := rfl
theorem zs_64 : zs 64 = .inr (0, 8) := rfl
theorem zs_65 : zs 65 = .inl (7, 16, zft [some none, some (some 66), some (some 67), some (some 68), some (some 69), some (some 70), some (some 71), some (some 72), some (some 73), some (some 74), none, none, none, none, none, none]) := rfl
theorem zs_66 : zs 66 = .inr (0, 6) := rfl
theorem zs_67 : zs 67 = .inr (0, 6) := rfl
theorem zs_68 : zs 68 = .inr (0, 6) := rfl
theorem zs_69 : zs 69 = .inr (0, 6) := rfl
theorem zs_70 : zs 70 = .inr (0, 6) := rfl
theorem zs_71 : zs 71 = .inr (0, 6) := rfl
theorem zs_72 : zs 72 = .inr (1, 6) := rfl
theorem zs_73 : zs 73 = .inr (0, 8) := rfl
theorem zs_74 : zs 74 = .inr (0, 8) := rfl
theorem zs_75 : zs 75 = .inl (7, 16, zft [some none, some (some 76), some (some 77), some (some 78), some (some 79), some (some 80), some (some 81), some (some 82), some (some 83), some (some 84), none, none, none, none, none, none]) := rfl
theorem zs_76 : zs 76 = .inr (0, 6) := rfl
theorem zs_77 : zs 77 = .inr (0, 6) := rfl
theorem zs_78 : zs 78 = .inr (0, 6) := rfl
theorem zs_79 : zs 79 = .inr (0, 6) := rfl
theorem zs_80 : zs 80 = .inr (0, 6) := rfl
theorem zs_81 : zs 81 = .inr (0, 6) := rfl
theorem zs_82 : zs 82 = .inr (1, 6) := rfl
theorem zs_83 : zs 83 = .inr (0, 8) := rfl
theorem zs_84 : zs 84 = .inr (0, 8) := rfl
theorem zs_85 : zs 85 = .inl (0, 4, zft [none, some (some 86), some (some 87), some (some 88)]) := rfl
theorem zs_86 : zs 86 = .inr (0, 20) := rfl
theorem zs_87 : zs 87 = .inr (0, 20) := rfl
theorem zs_88 : zs 88 = .inr (0, 20) := rfl
theorem zs_89 : zs 89 = .inl (4, 7, zft [none, none, some (some 90), some (some 91), some (some 92), some (some 93), some (some 94)]) := rfl
theorem zs_90 : zs 90 = .inr (0, 24) := rfl
theorem zs_91 : zs 91 = .inr (0, 24) := rfl
theorem zs_92 : zs 92 = .inr (1, 24) := rfl
theorem zs_93 : zs 93 = .inr (0, 24) := rfl
theorem zs_94 : zs 94 = .inr (1, 24) := rfl
theorem zs_95 : zs 95 = .inl (2, 2, zft [some (some 96), some (some 97)]) := rfl
theorem zs_96 : zs 96 = .inr (0, 1792) := rfl
theorem zs_97 : zs 97 = .inr (0, 6) := rfl
theorem zs_98 : zs 98 = .inl (9, 68, zft [none, some (some 99), none, some (some 100), some (some 101), some (some 102), some (some 103), some (some 104), some (some 105), some (some 106), some (some 107), some (some 108), some (some 109), some (some 110), some (some 111), some (some 112), some (some 113), some (some 114), some (some 115), none, none, none, none, none, none, none, none, none, none, none, none, none, some (some 116), some (some 117), none, some (some 118), some (some 119), some (some 120), some (some 121), some (some 122), some (some 123), some (some 124), some (some 125), some (some 126), some (some 127), some (some 128), some (some 129), some (some 130), some (some 131), none, none, none, none, none, some (some 132), some (some 133), some (some 134), none, some (some 135), some (some 136), none, none, none, some (some 137), some (some 138), some (some 139), some (some 140), some (some 141)]) := rfl
theorem zs_99 : zs 99 = .inr (0, 700) := rfl
theorem zs_100 : zs 100 = .inr (0, 18) := rfl
theorem zs_101 : zs 101 = .inr (0, 12) := rfl
theorem zs_102 : zs 102 = .inr (0, 12) := rfl
theorem zs_103 : zs 103 = .inr (0, 12) := rfl
theorem zs_104 : zs 104 = .inr (0, 12) := rfl
theorem zs_105 : zs 105 = .inr (0, 16) := rfl
theorem zs_106 : zs 106 = .inr (0, 16) := rfl
theorem zs_107 : zs 107 = .inr (0, 16) := rfl
theorem zs_108 : zs 108 = .inr (0, 16) := rfl
theorem zs_109 : zs 109 = .inr (0, 20) := rfl
theorem zs_110 : zs 110 = .inr (0, 20) := rfl
theorem zs_111 : zs 111 = .inr (0, 20) := rfl
theorem zs_112 : zs 112 = .inr (0, 6) := rfl
theorem zs_113 : zs 113 = .inr (0, 6) := rfl
theorem zs_114 : zs 114 = .inr (0, 128) := rfl
theorem zs_115 : zs 115 = .inr (0, 128) := rfl
theorem zs_116 : zs 116 = .inr (3, 7) := rfl
theorem zs_117 : zs 117 = .inr (3, 64) := rfl
theorem zs_118 : zs 118 = .inr (0, 23) := rfl
theorem zs_119 : zs 119 = .inr (0, 23) := rfl
theorem zs_120 : zs 120 = .inr (0, 23) := rfl
theorem zs_121 : zs 121 = .inr (0, 23) := rfl
theorem zs_122 : zs 122 = .inr (0, 23) := rfl
theorem zs_123 : zs 123 = .inr (0, 138) := rfl
theorem zs_124 : zs 124 = .inr (0, 138) := rfl
theorem zs_125 : zs 125 = .inr (0, 138) := rfl
theorem zs_126 : zs 126 = .inr (0, 138) := rfl
theorem zs_127 : zs 127 = .inr (0, 138) := rfl
theorem zs_128 : zs 128 = .inr (0, 138) := rfl
theorem zs_129 : zs 129 = .inr (0, 138) := rfl
theorem zs_130 : zs 130 = .inr (0, 184) := rfl
theorem zs_131 : zs 131 = .inr (0, 184) := rfl
theorem zs_132 : zs 132 = .inr (0, 6) := rfl
theorem zs_133 : zs 133 = .inr (0, 6) := rfl
theorem zs_134 : zs 134 = .inr (0, 6) := rfl
theorem zs_135 : zs 135 = .inr (0, 4) := rfl
theorem zs_136 : zs 136 = .inr (0, 4) := rfl
theorem zs_137 : zs 137 = .inr (0, 24) := rfl
theorem zs_138 : zs 138 = .inr (0, 24) := rfl
theorem zs_139 : zs 139 = .inr (1, 24) := rfl
theorem zs_140 : zs 140 = .inr (0, 24) := rfl
theorem zs_141 : zs 141 = .inr (1, 24) := rfl
def isW (w : Nat) : Prop := w = 55 ∨ w = 65 ∨ w = 75
def isPl (p : Nat) : Prop := p = 5 ∨ p = 26
theorem zsW0 {w : Nat} (h : isW w) : zs (w + 0) = .inl (7, 16, zft [some none, some (some (w + 1)), some (some (w + 2)), some (some (w + 3)), some (some (w + 4)), some (some (w + 5)), some (some (w + 6)), some (some (w + 7)), some (some (w + 8)), some (some (w + 9)), none, none, none, none, none, none]) := by
  rcases h with rfl | rfl | rfl <;> rfl
theorem zsW1 {w : Nat} (h : isW w) : zs (w + 1) = .inr (0, 6) := by
  rcases h with rfl | rfl | rfl <;> rfl
theorem zsW2 {w : Nat} (h : isW w) : zs (w + 2) = .inr (0, 6) := by
  rcases h with rfl | rfl | rfl <;> rfl
theorem zsW3 {w : Nat} (h : isW w) : zs (w + 3) = .inr (0, 6) := by
  rcases h with rfl | rfl | rfl <;> rfl
theorem zsW4 {w : Nat} (h : isW w) : zs (w + 4) = .inr (0, 6) := by
  rcases h with rfl | rfl | rfl <;> rfl
theorem zsW5 {w : Nat} (h : isW w) : zs (w + 5) = .inr (0, 6) := by
  rcases h with rfl | rfl | rfl <;> rfl
theorem zsW6 {w : Nat} (h : isW w) : zs (w + 6) = .inr (0, 6) := by
  rcases h with rfl | rfl | rfl <;> rfl
theorem zsW7 {w : Nat} (h : isW w) : zs (w + 7) = .inr (1, 6) := by
  rcases h with rfl | rfl | rfl <;> rfl
theorem zsW8 {w : Nat} (h : isW w) : zs (w + 8) = .inr (0, 8) := by
  rcases h with rfl | rfl | rfl <;> rfl
theorem zsW9 {w : Nat} (h : isW w) : zs (w + 9) = .inr (0, 8) := by
  rcases h with rfl | rfl | rfl <;> rfl
theorem zsP0 {p : Nat} (h : isPl p) : zs (p + 0) = .inl (3, 17, zft [none, some (some (p + 1)), some (some (p + 2)), some (some (p + 3)), some (some (p + 4)), none, some (some (p + 5)), some (some (p + 6)), some (some (p + 7)), some (some (p + 8)), none, some (some (p + 9)), some (some (p + 10)), some (some (p + 11)), some (some (p + 12)), some (some (p + 13)), some (some (p + 14))]) := by
  rcases h with rfl | rfl <;> rfl
theorem zsP1 {p : Nat} (h : isPl p) : zs (p + 1) = .inr (0, 6) := by
  rcases h with rfl | rfl <;> rfl
theorem zsP2 {p : Nat} (h : isPl p) : zs (p + 2) = .inr (0, 6) := by
  rcases h with rfl | rfl <;> rfl
theorem zsP3 {p : Nat} (h : isPl p) : zs (p + 3) = .inr (0, 6) := by
  rcases h with rfl | rfl <;> rfl
theorem zsP4 {p : Nat} (h : isPl p) : zs (p + 4) = .inr (0, 6) := by
  rcases h with rfl | rfl <;> rfl
theorem zsP5 {p : Nat} (h : isPl p) : zs (p + 5) = .inr (0, 8) := by
  rcases h with rfl | rfl <;> rfl
theorem zsP6 {p : Nat} (h : isPl p) : zs (p + 6) = .inr (0, 8) := by
  rcases h with rfl | rfl <;> rfl
theorem zsP7 {p : Nat} (h : isPl p) : zs (p + 7) = .inr (0, 8) := by
  rcases h with rfl | rfl <;> rfl
theorem zsP8 {p : Nat} (h : isPl p) : zs (p + 8) = .inr (0, 8) := by
  rcases h with rfl | rfl <;> rfl
theorem zsP9 {p : Nat} (h : isPl p) : zs (p + 9) = .inr (0, 10) := by
  rcases h with rfl | rfl <;> rfl
theorem zsP10 {p : Nat} (h : isPl p) : zs (p + 10) = .inr (0, 10) := by
  rcases h with rfl | rfl <;> rfl
theorem zsP11 {p : Nat} (h : isPl p) : zs (p + 11) = .inr (0, 10) := by
  rcases h with rfl | rfl <;> rfl
theorem zsP12 {p : Nat} (h : isPl p) : zs (p + 12) = .inr (0, 5) := by
  rcases h with rfl | rfl <;> rfl
theorem zsP13 {p : Nat} (h : isPl p) : zs (p + 13) = .inr (1, 5) := by
  rcases h with rfl | rfl <;> rfl
theorem zsP14 {p : Nat} (h : isPl p) : zs (p + 14) = .inl (1, 8, zft [none, none, some (some (p + 15)), some (some (p + 16)), some (some (p + 17)), some (some (p + 18)), some (some (p + 19)), some (some (p + 20))]) := by
  rcases h with rfl | rfl <;> rfl
theorem zsP15 {p : Nat} (h : isPl p) : zs (p + 15) = .inr (0, 3) := by
  rcases h with rfl | rfl <;> rfl
theorem zsP16 {p : Nat} (h : isPl p) : zs (p + 16) = .inr (0, 3) := by
  rcases h with rfl | rfl <;> rfl
theorem zsP17 {p : Nat} (h : isPl p) : zs (p + 17) = .inr (0, 64) := by
  rcases h with rfl | rfl <;> rfl
theorem zsP18 {p : Nat} (h : isPl p) : zs (p + 18) = .inr (0, 64) := by
  rcases h with rfl | rfl <;> rfl
theorem zsP19 {p : Nat} (h : isPl p) : zs (p + 19) = .inr (3, 7) := by
  rcases h with rfl | rfl <;> rfl
theorem zsP20 {p : Nat} (h : isPl p) : zs (p + 20) = .inr (3, 64) := by
  rcases h with rfl | rfl <;> rfl
