theorem dX0_init_0 : decode cX0_init 0 = .ok (.aload_n 0, 1) := by decide +kernel
theorem dX0_init_1 : decode cX0_init 1 = .ok (.invokespecial 3, 3) := by decide +kernel
theorem dX0_init_4 : decode cX0_init 4 = .ok (.aload_n 0, 1) := by decide +kernel
theorem dX0_init_5 : decode cX0_init 5 = .ok (.bipush 20, 2) := by decide +kernel
theorem dX0_init_7 : decode cX0_init 7 = .ok (.newarray .int, 2) := by decide +kernel
theorem dX0_init_9 : decode cX0_init 9 = .ok (.putfield 9, 3) := by decide +kernel
theorem dX0_init_12 : decode cX0_init 12 = .ok (.aload_n 0, 1) := by decide +kernel
theorem dX0_init_13 : decode cX0_init 13 = .ok (.bipush 20, 2) := by decide +kernel
theorem dX0_init_15 : decode cX0_init 15 = .ok (.newarray .int, 2) := by decide +kernel
theorem dX0_init_17 : decode cX0_init 17 = .ok (.putfield 15, 3) := by decide +kernel
theorem dX0_init_20 : decode cX0_init 20 = .ok (.aload_n 0, 1) := by decide +kernel
theorem dX0_init_21 : decode cX0_init 21 = .ok (.bipush 20, 2) := by decide +kernel
theorem dX0_init_23 : decode cX0_init 23 = .ok (.newarray .int, 2) := by decide +kernel
theorem dX0_init_25 : decode cX0_init 25 = .ok (.putfield 18, 3) := by decide +kernel
theorem dX0_init_28 : decode cX0_init 28 = .ok (.return_, 1) := by decide +kernel
theorem dX0_note_0 : decode cX0_note 0 = .ok (.aload_n 0, 1) := by decide +kernel
theorem dX0_note_1 : decode cX0_note 1 = .ok (.getfield 21, 3) := by decide +kernel
theorem dX0_note_4 : decode cX0_note 4 = .ok (.bipush 20, 2) := by decide +kernel
theorem dX0_note_6 : decode cX0_note 6 = .ok (.if_icmp .lt 7, 3) := by decide +kernel
theorem dX0_note_9 : decode cX0_note 9 = .ok (.aload_n 0, 1) := by decide +kernel
theorem dX0_note_10 : decode cX0_note 10 = .ok (.invokevirtual 25, 3) := by decide +kernel
theorem dX0_note_13 : decode cX0_note 13 = .ok (.aload_n 0, 1) := by decide +kernel
theorem dX0_note_14 : decode cX0_note 14 = .ok (.getfield 21, 3) := by decide +kernel
theorem dX0_note_17 : decode cX0_note 17 = .ok (.ifCond .lt 52, 3) := by decide +kernel
theorem dX0_note_20 : decode cX0_note 20 = .ok (.aload_n 0, 1) := by decide +kernel
theorem dX0_note_21 : decode cX0_note 21 = .ok (.getfield 21, 3) := by decide +kernel
theorem dX0_note_24 : decode cX0_note 24 = .ok (.bipush 20, 2) := by decide +kernel
theorem dX0_note_26 : decode cX0_note 26 = .ok (.if_icmp .ge 43, 3) := by decide +kernel
theorem dX0_note_29 : decode cX0_note 29 = .ok (.aload_n 0, 1) := by decide +kernel
theorem dX0_note_30 : decode cX0_note 30 = .ok (.getfield 9, 3) := by decide +kernel
theorem dX0_note_33 : decode cX0_note 33 = .ok (.aload_n 0, 1) := by decide +kernel
theorem dX0_note_34 : decode cX0_note 34 = .ok (.getfield 21, 3) := by decide +kernel
theorem dX0_note_37 : decode cX0_note 37 = .ok (.iload_n 1, 1) := by decide +kernel
theorem dX0_note_38 : decode cX0_note 38 = .ok (.iastore, 1) := by decide +kernel
theorem dX0_note_39 : decode cX0_note 39 = .ok (.aload_n 0, 1) := by decide +kernel
theorem dX0_note_40 : decode cX0_note 40 = .ok (.getfield 15, 3) := by decide +kernel
theorem dX0_note_43 : decode cX0_note 43 = .ok (.aload_n 0, 1) := by decide +kernel
theorem dX0_note_44 : decode cX0_note 44 = .ok (.getfield 21, 3) := by decide +kernel
theorem dX0_note_47 : decode cX0_note 47 = .ok (.iload_n 2, 1) := by decide +kernel
theorem dX0_note_48 : decode cX0_note 48 = .ok (.iastore, 1) := by decide +kernel
theorem dX0_note_49 : decode cX0_note 49 = .ok (.aload_n 0, 1) := by decide +kernel
theorem dX0_note_50 : decode cX0_note 50 = .ok (.getfield 18, 3) := by decide +kernel
theorem dX0_note_53 : decode cX0_note 53 = .ok (.aload_n 0, 1) := by decide +kernel
theorem dX0_note_54 : decode cX0_note 54 = .ok (.getfield 21, 3) := by decide +kernel
theorem dX0_note_57 : decode cX0_note 57 = .ok (.iload_n 3, 1) := by decide +kernel
theorem dX0_note_58 : decode cX0_note 58 = .ok (.iastore, 1) := by decide +kernel
theorem dX0_note_59 : decode cX0_note 59 = .ok (.aload_n 0, 1) := by decide +kernel
theorem dX0_note_60 : decode cX0_note 60 = .ok (.dup, 1) := by decide +kernel
theorem dX0_note_61 : decode cX0_note 61 = .ok (.getfield 21, 3) := by decide +kernel
theorem dX0_note_64 : decode cX0_note 64 = .ok (.iconst 1, 1) := by decide +kernel
theorem dX0_note_65 : decode cX0_note 65 = .ok (.iadd, 1) := by decide +kernel
theorem dX0_note_66 : decode cX0_note 66 = .ok (.putfield 21, 3) := by decide +kernel
theorem dX0_note_69 : decode cX0_note 69 = .ok (.return_, 1) := by decide +kernel
theorem dX0_forgetFirst_0 : decode cX0_forgetFirst 0 = .ok (.iconst 1, 1) := by decide +kernel
theorem dX0_forgetFirst_1 : decode cX0_forgetFirst 1 = .ok (.istore_n 1, 1) := by decide +kernel
theorem dX0_forgetFirst_2 : decode cX0_forgetFirst 2 = .ok (.iload_n 1, 1) := by decide +kernel
theorem dX0_forgetFirst_3 : decode cX0_forgetFirst 3 = .ok (.bipush 20, 2) := by decide +kernel
theorem dX0_forgetFirst_5 : decode cX0_forgetFirst 5 = .ok (.if_icmp .ge 51, 3) := by decide +kernel
theorem dX0_forgetFirst_8 : decode cX0_forgetFirst 8 = .ok (.aload_n 0, 1) := by decide +kernel
theorem dX0_forgetFirst_9 : decode cX0_forgetFirst 9 = .ok (.getfield 9, 3) := by decide +kernel
theorem dX0_forgetFirst_12 : decode cX0_forgetFirst 12 = .ok (.iload_n 1, 1) := by decide +kernel
theorem dX0_forgetFirst_13 : decode cX0_forgetFirst 13 = .ok (.iconst 1, 1) := by decide +kernel
theorem dX0_forgetFirst_14 : decode cX0_forgetFirst 14 = .ok (.isub, 1) := by decide +kernel
theorem dX0_forgetFirst_15 : decode cX0_forgetFirst 15 = .ok (.aload_n 0, 1) := by decide +kernel
theorem dX0_forgetFirst_16 : decode cX0_forgetFirst 16 = .ok (.getfield 9, 3) := by decide +kernel
theorem dX0_forgetFirst_19 : decode cX0_forgetFirst 19 = .ok (.iload_n 1, 1) := by decide +kernel
theorem dX0_forgetFirst_20 : decode cX0_forgetFirst 20 = .ok (.iaload, 1) := by decide +kernel
theorem dX0_forgetFirst_21 : decode cX0_forgetFirst 21 = .ok (.iastore, 1) := by decide +kernel
theorem dX0_forgetFirst_22 : decode cX0_forgetFirst 22 = .ok (.aload_n 0, 1) := by decide +kernel
theorem dX0_forgetFirst_23 : decode cX0_forgetFirst 23 = .ok (.getfield 15, 3) := by decide +kernel
theorem dX0_forgetFirst_26 : decode cX0_forgetFirst 26 = .ok (.iload_n 1, 1) := by decide +kernel
theorem dX0_forgetFirst_27 : decode cX0_forgetFirst 27 = .ok (.iconst 1, 1) := by decide +kernel
theorem dX0_forgetFirst_28 : decode cX0_forgetFirst 28 = .ok (.isub, 1) := by decide +kernel
theorem dX0_forgetFirst_29 : decode cX0_forgetFirst 29 = .ok (.aload_n 0, 1) := by decide +kernel
theorem dX0_forgetFirst_30 : decode cX0_forgetFirst 30 = .ok (.getfield 15, 3) := by decide +kernel
theorem dX0_forgetFirst_33 : decode cX0_forgetFirst 33 = .ok (.iload_n 1, 1) := by decide +kernel
theorem dX0_forgetFirst_34 : decode cX0_forgetFirst 34 = .ok (.iaload, 1) := by decide +kernel
theorem dX0_forgetFirst_35 : decode cX0_forgetFirst 35 = .ok (.iastore, 1) := by decide +kernel
theorem dX0_forgetFirst_36 : decode cX0_forgetFirst 36 = .ok (.aload_n 0, 1) := by decide +kernel
theorem dX0_forgetFirst_37 : decode cX0_forgetFirst 37 = .ok (.getfield 18, 3) := by decide +kernel
theorem dX0_forgetFirst_40 : decode cX0_forgetFirst 40 = .ok (.iload_n 1, 1) := by decide +kernel
theorem dX0_forgetFirst_41 : decode cX0_forgetFirst 41 = .ok (.iconst 1, 1) := by decide +kernel
theorem dX0_forgetFirst_42 : decode cX0_forgetFirst 42 = .ok (.isub, 1) := by decide +kernel
theorem dX0_forgetFirst_43 : decode cX0_forgetFirst 43 = .ok (.aload_n 0, 1) := by decide +kernel
theorem dX0_forgetFirst_44 : decode cX0_forgetFirst 44 = .ok (.getfield 18, 3) := by decide +kernel
theorem dX0_forgetFirst_47 : decode cX0_forgetFirst 47 = .ok (.iload_n 1, 1) := by decide +kernel
theorem dX0_forgetFirst_48 : decode cX0_forgetFirst 48 = .ok (.iaload, 1) := by decide +kernel
theorem dX0_forgetFirst_49 : decode cX0_forgetFirst 49 = .ok (.iastore, 1) := by decide +kernel
theorem dX0_forgetFirst_50 : decode cX0_forgetFirst 50 = .ok (.iinc 1 1, 3) := by decide +kernel
theorem dX0_forgetFirst_53 : decode cX0_forgetFirst 53 = .ok (.goto (-51), 3) := by decide +kernel
theorem dX0_forgetFirst_56 : decode cX0_forgetFirst 56 = .ok (.aload_n 0, 1) := by decide +kernel
theorem dX0_forgetFirst_57 : decode cX0_forgetFirst 57 = .ok (.bipush 19, 2) := by decide +kernel
theorem dX0_forgetFirst_59 : decode cX0_forgetFirst 59 = .ok (.putfield 21, 3) := by decide +kernel
theorem dX0_forgetFirst_62 : decode cX0_forgetFirst 62 = .ok (.return_, 1) := by decide +kernel
