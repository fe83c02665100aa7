theorem dX4_init_0 : decode cX4_init 0 = .ok (.aload_n 0, 1) := by decide +kernel
theorem dX4_init_1 : decode cX4_init 1 = .ok (.invokespecial 3, 3) := by decide +kernel
theorem dX4_init_4 : decode cX4_init 4 = .ok (.aload_n 0, 1) := by decide +kernel
theorem dX4_init_5 : decode cX4_init 5 = .ok (.iconst (-1), 1) := by decide +kernel
theorem dX4_init_6 : decode cX4_init 6 = .ok (.putfield 9, 3) := by decide +kernel
theorem dX4_init_9 : decode cX4_init 9 = .ok (.aload_n 0, 1) := by decide +kernel
theorem dX4_init_10 : decode cX4_init 10 = .ok (.bipush 24, 2) := by decide +kernel
theorem dX4_init_12 : decode cX4_init 12 = .ok (.newarray .int, 2) := by decide +kernel
theorem dX4_init_14 : decode cX4_init 14 = .ok (.putfield 15, 3) := by decide +kernel
theorem dX4_init_17 : decode cX4_init 17 = .ok (.aload_n 0, 1) := by decide +kernel
theorem dX4_init_18 : decode cX4_init 18 = .ok (.bipush 24, 2) := by decide +kernel
theorem dX4_init_20 : decode cX4_init 20 = .ok (.newarray .int, 2) := by decide +kernel
theorem dX4_init_22 : decode cX4_init 22 = .ok (.putfield 19, 3) := by decide +kernel
theorem dX4_init_25 : decode cX4_init 25 = .ok (.aload_n 0, 1) := by decide +kernel
theorem dX4_init_26 : decode cX4_init 26 = .ok (.bipush 24, 2) := by decide +kernel
theorem dX4_init_28 : decode cX4_init 28 = .ok (.newarray .boolean, 2) := by decide +kernel
theorem dX4_init_30 : decode cX4_init 30 = .ok (.putfield 22, 3) := by decide +kernel
theorem dX4_init_33 : decode cX4_init 33 = .ok (.aload_n 0, 1) := by decide +kernel
theorem dX4_init_34 : decode cX4_init 34 = .ok (.bipush 24, 2) := by decide +kernel
theorem dX4_init_36 : decode cX4_init 36 = .ok (.newarray .int, 2) := by decide +kernel
theorem dX4_init_38 : decode cX4_init 38 = .ok (.putfield 26, 3) := by decide +kernel
theorem dX4_init_41 : decode cX4_init 41 = .ok (.aload_n 0, 1) := by decide +kernel
theorem dX4_init_42 : decode cX4_init 42 = .ok (.bipush 24, 2) := by decide +kernel
theorem dX4_init_44 : decode cX4_init 44 = .ok (.newarray .boolean, 2) := by decide +kernel
theorem dX4_init_46 : decode cX4_init 46 = .ok (.putfield 29, 3) := by decide +kernel
theorem dX4_init_49 : decode cX4_init 49 = .ok (.return_, 1) := by decide +kernel
theorem dX4_clear_0 : decode cX4_clear 0 = .ok (.aload_n 0, 1) := by decide +kernel
theorem dX4_clear_1 : decode cX4_clear 1 = .ok (.iconst 0, 1) := by decide +kernel
theorem dX4_clear_2 : decode cX4_clear 2 = .ok (.putfield 32, 3) := by decide +kernel
theorem dX4_clear_5 : decode cX4_clear 5 = .ok (.aload_n 0, 1) := by decide +kernel
theorem dX4_clear_6 : decode cX4_clear 6 = .ok (.iconst (-1), 1) := by decide +kernel
theorem dX4_clear_7 : decode cX4_clear 7 = .ok (.putfield 9, 3) := by decide +kernel
theorem dX4_clear_10 : decode cX4_clear 10 = .ok (.return_, 1) := by decide +kernel
theorem dX4_note_0 : decode cX4_note 0 = .ok (.aload_n 0, 1) := by decide +kernel
theorem dX4_note_1 : decode cX4_note 1 = .ok (.getfield 32, 3) := by decide +kernel
theorem dX4_note_4 : decode cX4_note 4 = .ok (.ifCond .lt 12, 3) := by decide +kernel
theorem dX4_note_7 : decode cX4_note 7 = .ok (.aload_n 0, 1) := by decide +kernel
theorem dX4_note_8 : decode cX4_note 8 = .ok (.getfield 32, 3) := by decide +kernel
theorem dX4_note_11 : decode cX4_note 11 = .ok (.bipush 24, 2) := by decide +kernel
theorem dX4_note_13 : decode cX4_note 13 = .ok (.if_icmp .lt 5, 3) := by decide +kernel
theorem dX4_note_16 : decode cX4_note 16 = .ok (.iconst (-1), 1) := by decide +kernel
theorem dX4_note_17 : decode cX4_note 17 = .ok (.ireturn, 1) := by decide +kernel
theorem dX4_note_18 : decode cX4_note 18 = .ok (.aload_n 0, 1) := by decide +kernel
theorem dX4_note_19 : decode cX4_note 19 = .ok (.getfield 15, 3) := by decide +kernel
theorem dX4_note_22 : decode cX4_note 22 = .ok (.aload_n 0, 1) := by decide +kernel
theorem dX4_note_23 : decode cX4_note 23 = .ok (.getfield 32, 3) := by decide +kernel
theorem dX4_note_26 : decode cX4_note 26 = .ok (.iload_n 1, 1) := by decide +kernel
theorem dX4_note_27 : decode cX4_note 27 = .ok (.iastore, 1) := by decide +kernel
theorem dX4_note_28 : decode cX4_note 28 = .ok (.aload_n 0, 1) := by decide +kernel
theorem dX4_note_29 : decode cX4_note 29 = .ok (.getfield 19, 3) := by decide +kernel
theorem dX4_note_32 : decode cX4_note 32 = .ok (.aload_n 0, 1) := by decide +kernel
theorem dX4_note_33 : decode cX4_note 33 = .ok (.getfield 32, 3) := by decide +kernel
theorem dX4_note_36 : decode cX4_note 36 = .ok (.iload_n 2, 1) := by decide +kernel
theorem dX4_note_37 : decode cX4_note 37 = .ok (.iastore, 1) := by decide +kernel
theorem dX4_note_38 : decode cX4_note 38 = .ok (.aload_n 0, 1) := by decide +kernel
theorem dX4_note_39 : decode cX4_note 39 = .ok (.getfield 22, 3) := by decide +kernel
theorem dX4_note_42 : decode cX4_note 42 = .ok (.aload_n 0, 1) := by decide +kernel
theorem dX4_note_43 : decode cX4_note 43 = .ok (.getfield 32, 3) := by decide +kernel
theorem dX4_note_46 : decode cX4_note 46 = .ok (.iload_n 3, 1) := by decide +kernel
theorem dX4_note_47 : decode cX4_note 47 = .ok (.bastore, 1) := by decide +kernel
theorem dX4_note_48 : decode cX4_note 48 = .ok (.aload_n 0, 1) := by decide +kernel
theorem dX4_note_49 : decode cX4_note 49 = .ok (.getfield 26, 3) := by decide +kernel
theorem dX4_note_52 : decode cX4_note 52 = .ok (.aload_n 0, 1) := by decide +kernel
theorem dX4_note_53 : decode cX4_note 53 = .ok (.getfield 32, 3) := by decide +kernel
theorem dX4_note_56 : decode cX4_note 56 = .ok (.iload 4, 2) := by decide +kernel
theorem dX4_note_58 : decode cX4_note 58 = .ok (.iastore, 1) := by decide +kernel
theorem dX4_note_59 : decode cX4_note 59 = .ok (.aload_n 0, 1) := by decide +kernel
theorem dX4_note_60 : decode cX4_note 60 = .ok (.dup, 1) := by decide +kernel
theorem dX4_note_61 : decode cX4_note 61 = .ok (.getfield 32, 3) := by decide +kernel
theorem dX4_note_64 : decode cX4_note 64 = .ok (.iconst 1, 1) := by decide +kernel
theorem dX4_note_65 : decode cX4_note 65 = .ok (.iadd, 1) := by decide +kernel
theorem dX4_note_66 : decode cX4_note 66 = .ok (.putfield 32, 3) := by decide +kernel
theorem dX4_note_69 : decode cX4_note 69 = .ok (.aload_n 0, 1) := by decide +kernel
theorem dX4_note_70 : decode cX4_note 70 = .ok (.getfield 32, 3) := by decide +kernel
theorem dX4_note_73 : decode cX4_note 73 = .ok (.iconst 1, 1) := by decide +kernel
theorem dX4_note_74 : decode cX4_note 74 = .ok (.isub, 1) := by decide +kernel
theorem dX4_note_75 : decode cX4_note 75 = .ok (.ireturn, 1) := by decide +kernel
theorem dX4_knownSize_0 : decode cX4_knownSize 0 = .ok (.aload_n 0, 1) := by decide +kernel
theorem dX4_knownSize_1 : decode cX4_knownSize 1 = .ok (.getfield 9, 3) := by decide +kernel
theorem dX4_knownSize_4 : decode cX4_knownSize 4 = .ok (.ifCond .ge 10, 3) := by decide +kernel
theorem dX4_knownSize_7 : decode cX4_knownSize 7 = .ok (.aload_n 0, 1) := by decide +kernel
theorem dX4_knownSize_8 : decode cX4_knownSize 8 = .ok (.getfield 32, 3) := by decide +kernel
theorem dX4_knownSize_11 : decode cX4_knownSize 11 = .ok (.goto 7, 3) := by decide +kernel
theorem dX4_knownSize_14 : decode cX4_knownSize 14 = .ok (.aload_n 0, 1) := by decide +kernel
theorem dX4_knownSize_15 : decode cX4_knownSize 15 = .ok (.getfield 9, 3) := by decide +kernel
theorem dX4_knownSize_18 : decode cX4_knownSize 18 = .ok (.ireturn, 1) := by decide +kernel
theorem dX4_markKnown_0 : decode cX4_markKnown 0 = .ok (.aload_n 0, 1) := by decide +kernel
theorem dX4_markKnown_1 : decode cX4_markKnown 1 = .ok (.invokevirtual 35, 3) := by decide +kernel
theorem dX4_markKnown_4 : decode cX4_markKnown 4 = .ok (.bipush 24, 2) := by decide +kernel
theorem dX4_markKnown_6 : decode cX4_markKnown 6 = .ok (.invokestatic 39, 3) := by decide +kernel
theorem dX4_markKnown_9 : decode cX4_markKnown 9 = .ok (.istore_n 1, 1) := by decide +kernel
theorem dX4_markKnown_10 : decode cX4_markKnown 10 = .ok (.iconst 0, 1) := by decide +kernel
theorem dX4_markKnown_11 : decode cX4_markKnown 11 = .ok (.istore_n 2, 1) := by decide +kernel
theorem dX4_markKnown_12 : decode cX4_markKnown 12 = .ok (.iload_n 2, 1) := by decide +kernel
theorem dX4_markKnown_13 : decode cX4_markKnown 13 = .ok (.bipush 24, 2) := by decide +kernel
theorem dX4_markKnown_15 : decode cX4_markKnown 15 = .ok (.if_icmp .ge 25, 3) := by decide +kernel
theorem dX4_markKnown_18 : decode cX4_markKnown 18 = .ok (.aload_n 0, 1) := by decide +kernel
theorem dX4_markKnown_19 : decode cX4_markKnown 19 = .ok (.getfield 29, 3) := by decide +kernel
theorem dX4_markKnown_22 : decode cX4_markKnown 22 = .ok (.iload_n 2, 1) := by decide +kernel
theorem dX4_markKnown_23 : decode cX4_markKnown 23 = .ok (.iload_n 2, 1) := by decide +kernel
theorem dX4_markKnown_24 : decode cX4_markKnown 24 = .ok (.iload_n 1, 1) := by decide +kernel
theorem dX4_markKnown_25 : decode cX4_markKnown 25 = .ok (.if_icmp .ge 7, 3) := by decide +kernel
theorem dX4_markKnown_28 : decode cX4_markKnown 28 = .ok (.iconst 1, 1) := by decide +kernel
theorem dX4_markKnown_29 : decode cX4_markKnown 29 = .ok (.goto 4, 3) := by decide +kernel
theorem dX4_markKnown_32 : decode cX4_markKnown 32 = .ok (.iconst 0, 1) := by decide +kernel
theorem dX4_markKnown_33 : decode cX4_markKnown 33 = .ok (.bastore, 1) := by decide +kernel
theorem dX4_markKnown_34 : decode cX4_markKnown 34 = .ok (.iinc 2 1, 3) := by decide +kernel
theorem dX4_markKnown_37 : decode cX4_markKnown 37 = .ok (.goto (-25), 3) := by decide +kernel
theorem dX4_markKnown_40 : decode cX4_markKnown 40 = .ok (.iconst 0, 1) := by decide +kernel
theorem dX4_markKnown_41 : decode cX4_markKnown 41 = .ok (.istore_n 2, 1) := by decide +kernel
theorem dX4_markKnown_42 : decode cX4_markKnown 42 = .ok (.iload_n 1, 1) := by decide +kernel
theorem dX4_markKnown_43 : decode cX4_markKnown 43 = .ok (.iconst 1, 1) := by decide +kernel
theorem dX4_markKnown_44 : decode cX4_markKnown 44 = .ok (.isub, 1) := by decide +kernel
theorem dX4_markKnown_45 : decode cX4_markKnown 45 = .ok (.istore_n 3, 1) := by decide +kernel
theorem dX4_markKnown_46 : decode cX4_markKnown 46 = .ok (.iload_n 3, 1) := by decide +kernel
theorem dX4_markKnown_47 : decode cX4_markKnown 47 = .ok (.ifCond .lt 73, 3) := by decide +kernel
theorem dX4_markKnown_50 : decode cX4_markKnown 50 = .ok (.aload_n 0, 1) := by decide +kernel
theorem dX4_markKnown_51 : decode cX4_markKnown 51 = .ok (.getfield 29, 3) := by decide +kernel
theorem dX4_markKnown_54 : decode cX4_markKnown 54 = .ok (.iload_n 3, 1) := by decide +kernel
theorem dX4_markKnown_55 : decode cX4_markKnown 55 = .ok (.baload, 1) := by decide +kernel
theorem dX4_markKnown_56 : decode cX4_markKnown 56 = .ok (.ifCond .eq 38, 3) := by decide +kernel
theorem dX4_markKnown_59 : decode cX4_markKnown 59 = .ok (.aload_n 0, 1) := by decide +kernel
theorem dX4_markKnown_60 : decode cX4_markKnown 60 = .ok (.getfield 26, 3) := by decide +kernel
theorem dX4_markKnown_63 : decode cX4_markKnown 63 = .ok (.iload_n 3, 1) := by decide +kernel
theorem dX4_markKnown_64 : decode cX4_markKnown 64 = .ok (.iaload, 1) := by decide +kernel
theorem dX4_markKnown_65 : decode cX4_markKnown 65 = .ok (.ifCond .lt 29, 3) := by decide +kernel
theorem dX4_markKnown_68 : decode cX4_markKnown 68 = .ok (.aload_n 0, 1) := by decide +kernel
theorem dX4_markKnown_69 : decode cX4_markKnown 69 = .ok (.getfield 26, 3) := by decide +kernel
theorem dX4_markKnown_72 : decode cX4_markKnown 72 = .ok (.iload_n 3, 1) := by decide +kernel
theorem dX4_markKnown_73 : decode cX4_markKnown 73 = .ok (.iaload, 1) := by decide +kernel
theorem dX4_markKnown_74 : decode cX4_markKnown 74 = .ok (.bipush 24, 2) := by decide +kernel
theorem dX4_markKnown_76 : decode cX4_markKnown 76 = .ok (.if_icmp .ge 18, 3) := by decide +kernel
theorem dX4_markKnown_79 : decode cX4_markKnown 79 = .ok (.aload_n 0, 1) := by decide +kernel
theorem dX4_markKnown_80 : decode cX4_markKnown 80 = .ok (.getfield 29, 3) := by decide +kernel
theorem dX4_markKnown_83 : decode cX4_markKnown 83 = .ok (.aload_n 0, 1) := by decide +kernel
theorem dX4_markKnown_84 : decode cX4_markKnown 84 = .ok (.getfield 26, 3) := by decide +kernel
theorem dX4_markKnown_87 : decode cX4_markKnown 87 = .ok (.iload_n 3, 1) := by decide +kernel
theorem dX4_markKnown_88 : decode cX4_markKnown 88 = .ok (.iaload, 1) := by decide +kernel
theorem dX4_markKnown_89 : decode cX4_markKnown 89 = .ok (.iconst 0, 1) := by decide +kernel
theorem dX4_markKnown_90 : decode cX4_markKnown 90 = .ok (.bastore, 1) := by decide +kernel
theorem dX4_markKnown_91 : decode cX4_markKnown 91 = .ok (.goto 23, 3) := by decide +kernel
theorem dX4_markKnown_94 : decode cX4_markKnown 94 = .ok (.aload_n 0, 1) := by decide +kernel
theorem dX4_markKnown_95 : decode cX4_markKnown 95 = .ok (.getfield 29, 3) := by decide +kernel
theorem dX4_markKnown_98 : decode cX4_markKnown 98 = .ok (.iload_n 3, 1) := by decide +kernel
theorem dX4_markKnown_99 : decode cX4_markKnown 99 = .ok (.baload, 1) := by decide +kernel
theorem dX4_markKnown_100 : decode cX4_markKnown 100 = .ok (.ifCond .eq 14, 3) := by decide +kernel
theorem dX4_markKnown_103 : decode cX4_markKnown 103 = .ok (.iload_n 2, 1) := by decide +kernel
theorem dX4_markKnown_104 : decode cX4_markKnown 104 = .ok (.aload_n 0, 1) := by decide +kernel
theorem dX4_markKnown_105 : decode cX4_markKnown 105 = .ok (.getfield 15, 3) := by decide +kernel
theorem dX4_markKnown_108 : decode cX4_markKnown 108 = .ok (.iload_n 3, 1) := by decide +kernel
theorem dX4_markKnown_109 : decode cX4_markKnown 109 = .ok (.iaload, 1) := by decide +kernel
theorem dX4_markKnown_110 : decode cX4_markKnown 110 = .ok (.invokestatic 45, 3) := by decide +kernel
theorem dX4_markKnown_113 : decode cX4_markKnown 113 = .ok (.istore_n 2, 1) := by decide +kernel
theorem dX4_markKnown_114 : decode cX4_markKnown 114 = .ok (.iinc 3 (-1), 3) := by decide +kernel
theorem dX4_markKnown_117 : decode cX4_markKnown 117 = .ok (.goto (-71), 3) := by decide +kernel
theorem dX4_markKnown_120 : decode cX4_markKnown 120 = .ok (.iload_n 2, 1) := by decide +kernel
theorem dX4_markKnown_121 : decode cX4_markKnown 121 = .ok (.bipush 60, 2) := by decide +kernel
theorem dX4_markKnown_123 : decode cX4_markKnown 123 = .ok (.invokestatic 39, 3) := by decide +kernel
theorem dX4_markKnown_126 : decode cX4_markKnown 126 = .ok (.ireturn, 1) := by decide +kernel
theorem dX4_fits_0 : decode cX4_fits 0 = .ok (.iconst 0, 1) := by decide +kernel
theorem dX4_fits_1 : decode cX4_fits 1 = .ok (.istore_n 3, 1) := by decide +kernel
theorem dX4_fits_2 : decode cX4_fits 2 = .ok (.iload_n 3, 1) := by decide +kernel
theorem dX4_fits_3 : decode cX4_fits 3 = .ok (.aload_n 0, 1) := by decide +kernel
theorem dX4_fits_4 : decode cX4_fits 4 = .ok (.getfield 32, 3) := by decide +kernel
theorem dX4_fits_7 : decode cX4_fits 7 = .ok (.if_icmp .ge 82, 3) := by decide +kernel
theorem dX4_fits_10 : decode cX4_fits 10 = .ok (.iload_n 3, 1) := by decide +kernel
theorem dX4_fits_11 : decode cX4_fits 11 = .ok (.bipush 24, 2) := by decide +kernel
theorem dX4_fits_13 : decode cX4_fits 13 = .ok (.if_icmp .ge 76, 3) := by decide +kernel
theorem dX4_fits_16 : decode cX4_fits 16 = .ok (.aload_n 0, 1) := by decide +kernel
theorem dX4_fits_17 : decode cX4_fits 17 = .ok (.getfield 29, 3) := by decide +kernel
theorem dX4_fits_20 : decode cX4_fits 20 = .ok (.iload_n 3, 1) := by decide +kernel
theorem dX4_fits_21 : decode cX4_fits 21 = .ok (.baload, 1) := by decide +kernel
theorem dX4_fits_22 : decode cX4_fits 22 = .ok (.ifCond .eq 61, 3) := by decide +kernel
theorem dX4_fits_25 : decode cX4_fits 25 = .ok (.aload_n 0, 1) := by decide +kernel
theorem dX4_fits_26 : decode cX4_fits 26 = .ok (.getfield 15, 3) := by decide +kernel
theorem dX4_fits_29 : decode cX4_fits 29 = .ok (.iload_n 3, 1) := by decide +kernel
theorem dX4_fits_30 : decode cX4_fits 30 = .ok (.iaload, 1) := by decide +kernel
theorem dX4_fits_31 : decode cX4_fits 31 = .ok (.iload_n 1, 1) := by decide +kernel
theorem dX4_fits_32 : decode cX4_fits 32 = .ok (.if_icmp .ne 51, 3) := by decide +kernel
theorem dX4_fits_35 : decode cX4_fits 35 = .ok (.aload_n 0, 1) := by decide +kernel
theorem dX4_fits_36 : decode cX4_fits 36 = .ok (.getfield 19, 3) := by decide +kernel
theorem dX4_fits_39 : decode cX4_fits 39 = .ok (.iload_n 3, 1) := by decide +kernel
theorem dX4_fits_40 : decode cX4_fits 40 = .ok (.iaload, 1) := by decide +kernel
theorem dX4_fits_41 : decode cX4_fits 41 = .ok (.ifCond .lt 42, 3) := by decide +kernel
theorem dX4_fits_44 : decode cX4_fits 44 = .ok (.aload_n 0, 1) := by decide +kernel
theorem dX4_fits_45 : decode cX4_fits 45 = .ok (.getfield 19, 3) := by decide +kernel
theorem dX4_fits_48 : decode cX4_fits 48 = .ok (.iload_n 3, 1) := by decide +kernel
theorem dX4_fits_49 : decode cX4_fits 49 = .ok (.iaload, 1) := by decide +kernel
theorem dX4_fits_50 : decode cX4_fits 50 = .ok (.aload_n 2, 1) := by decide +kernel
theorem dX4_fits_51 : decode cX4_fits 51 = .ok (.arraylength, 1) := by decide +kernel
theorem dX4_fits_52 : decode cX4_fits 52 = .ok (.if_icmp .ge 31, 3) := by decide +kernel
theorem dX4_fits_55 : decode cX4_fits 55 = .ok (.aload_n 2, 1) := by decide +kernel
theorem dX4_fits_56 : decode cX4_fits 56 = .ok (.aload_n 0, 1) := by decide +kernel
theorem dX4_fits_57 : decode cX4_fits 57 = .ok (.getfield 19, 3) := by decide +kernel
theorem dX4_fits_60 : decode cX4_fits 60 = .ok (.iload_n 3, 1) := by decide +kernel
theorem dX4_fits_61 : decode cX4_fits 61 = .ok (.iaload, 1) := by decide +kernel
theorem dX4_fits_62 : decode cX4_fits 62 = .ok (.iaload, 1) := by decide +kernel
theorem dX4_fits_63 : decode cX4_fits 63 = .ok (.iconst 2, 1) := by decide +kernel
theorem dX4_fits_64 : decode cX4_fits 64 = .ok (.if_icmp .ne 7, 3) := by decide +kernel
theorem dX4_fits_67 : decode cX4_fits 67 = .ok (.iconst 1, 1) := by decide +kernel
theorem dX4_fits_68 : decode cX4_fits 68 = .ok (.goto 4, 3) := by decide +kernel
theorem dX4_fits_71 : decode cX4_fits 71 = .ok (.iconst 0, 1) := by decide +kernel
theorem dX4_fits_72 : decode cX4_fits 72 = .ok (.aload_n 0, 1) := by decide +kernel
theorem dX4_fits_73 : decode cX4_fits 73 = .ok (.getfield 22, 3) := by decide +kernel
theorem dX4_fits_76 : decode cX4_fits 76 = .ok (.iload_n 3, 1) := by decide +kernel
theorem dX4_fits_77 : decode cX4_fits 77 = .ok (.baload, 1) := by decide +kernel
theorem dX4_fits_78 : decode cX4_fits 78 = .ok (.if_icmp .eq 5, 3) := by decide +kernel
theorem dX4_fits_81 : decode cX4_fits 81 = .ok (.iconst 0, 1) := by decide +kernel
theorem dX4_fits_82 : decode cX4_fits 82 = .ok (.ireturn, 1) := by decide +kernel
theorem dX4_fits_83 : decode cX4_fits 83 = .ok (.iinc 3 1, 3) := by decide +kernel
theorem dX4_fits_86 : decode cX4_fits 86 = .ok (.goto (-84), 3) := by decide +kernel
theorem dX4_fits_89 : decode cX4_fits 89 = .ok (.iconst 1, 1) := by decide +kernel
theorem dX4_fits_90 : decode cX4_fits 90 = .ok (.ireturn, 1) := by decide +kernel
