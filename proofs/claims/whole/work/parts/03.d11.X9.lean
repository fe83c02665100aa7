theorem dX9_init_0 : decode cX9_init 0 = .ok (.aload_n 0, 1) := by decide +kernel
theorem dX9_init_1 : decode cX9_init 1 = .ok (.invokespecial 3, 3) := by decide +kernel
theorem dX9_init_4 : decode cX9_init 4 = .ok (.aload_n 0, 1) := by decide +kernel
theorem dX9_init_5 : decode cX9_init 5 = .ok (.sipush 700, 3) := by decide +kernel
theorem dX9_init_8 : decode cX9_init 8 = .ok (.newarray .byte, 2) := by decide +kernel
theorem dX9_init_10 : decode cX9_init 10 = .ok (.putfield 11, 3) := by decide +kernel
theorem dX9_init_13 : decode cX9_init 13 = .ok (.aload_n 0, 1) := by decide +kernel
theorem dX9_init_14 : decode cX9_init 14 = .ok (.new 15, 3) := by decide +kernel
theorem dX9_init_17 : decode cX9_init 17 = .ok (.dup, 1) := by decide +kernel
theorem dX9_init_18 : decode cX9_init 18 = .ok (.invokespecial 17, 3) := by decide +kernel
theorem dX9_init_21 : decode cX9_init 21 = .ok (.putfield 18, 3) := by decide +kernel
theorem dX9_init_24 : decode cX9_init 24 = .ok (.aload_n 0, 1) := by decide +kernel
theorem dX9_init_25 : decode cX9_init 25 = .ok (.new 15, 3) := by decide +kernel
theorem dX9_init_28 : decode cX9_init 28 = .ok (.dup, 1) := by decide +kernel
theorem dX9_init_29 : decode cX9_init 29 = .ok (.invokespecial 17, 3) := by decide +kernel
theorem dX9_init_32 : decode cX9_init 32 = .ok (.putfield 22, 3) := by decide +kernel
theorem dX9_init_35 : decode cX9_init 35 = .ok (.aload_n 0, 1) := by decide +kernel
theorem dX9_init_36 : decode cX9_init 36 = .ok (.new 25, 3) := by decide +kernel
theorem dX9_init_39 : decode cX9_init 39 = .ok (.dup, 1) := by decide +kernel
theorem dX9_init_40 : decode cX9_init 40 = .ok (.aload_n 0, 1) := by decide +kernel
theorem dX9_init_41 : decode cX9_init 41 = .ok (.getfield 22, 3) := by decide +kernel
theorem dX9_init_44 : decode cX9_init 44 = .ok (.invokespecial 27, 3) := by decide +kernel
theorem dX9_init_47 : decode cX9_init 47 = .ok (.putfield 30, 3) := by decide +kernel
theorem dX9_init_50 : decode cX9_init 50 = .ok (.aload_n 0, 1) := by decide +kernel
theorem dX9_init_51 : decode cX9_init 51 = .ok (.iconst (-1), 1) := by decide +kernel
theorem dX9_init_52 : decode cX9_init 52 = .ok (.putfield 34, 3) := by decide +kernel
theorem dX9_init_55 : decode cX9_init 55 = .ok (.aload_n 0, 1) := by decide +kernel
theorem dX9_init_56 : decode cX9_init 56 = .ok (.new 38, 3) := by decide +kernel
theorem dX9_init_59 : decode cX9_init 59 = .ok (.dup, 1) := by decide +kernel
theorem dX9_init_60 : decode cX9_init 60 = .ok (.aload_n 0, 1) := by decide +kernel
theorem dX9_init_61 : decode cX9_init 61 = .ok (.getfield 18, 3) := by decide +kernel
theorem dX9_init_64 : decode cX9_init 64 = .ok (.invokespecial 40, 3) := by decide +kernel
theorem dX9_init_67 : decode cX9_init 67 = .ok (.putfield 41, 3) := by decide +kernel
theorem dX9_init_70 : decode cX9_init 70 = .ok (.aload_n 0, 1) := by decide +kernel
theorem dX9_init_71 : decode cX9_init 71 = .ok (.new 38, 3) := by decide +kernel
theorem dX9_init_74 : decode cX9_init 74 = .ok (.dup, 1) := by decide +kernel
theorem dX9_init_75 : decode cX9_init 75 = .ok (.aload_n 0, 1) := by decide +kernel
theorem dX9_init_76 : decode cX9_init 76 = .ok (.getfield 18, 3) := by decide +kernel
theorem dX9_init_79 : decode cX9_init 79 = .ok (.invokespecial 40, 3) := by decide +kernel
theorem dX9_init_82 : decode cX9_init 82 = .ok (.putfield 45, 3) := by decide +kernel
theorem dX9_init_85 : decode cX9_init 85 = .ok (.aload_n 0, 1) := by decide +kernel
theorem dX9_init_86 : decode cX9_init 86 = .ok (.new 38, 3) := by decide +kernel
theorem dX9_init_89 : decode cX9_init 89 = .ok (.dup, 1) := by decide +kernel
theorem dX9_init_90 : decode cX9_init 90 = .ok (.aload_n 0, 1) := by decide +kernel
theorem dX9_init_91 : decode cX9_init 91 = .ok (.getfield 18, 3) := by decide +kernel
theorem dX9_init_94 : decode cX9_init 94 = .ok (.invokespecial 40, 3) := by decide +kernel
theorem dX9_init_97 : decode cX9_init 97 = .ok (.putfield 48, 3) := by decide +kernel
theorem dX9_init_100 : decode cX9_init 100 = .ok (.aload_n 0, 1) := by decide +kernel
theorem dX9_init_101 : decode cX9_init 101 = .ok (.new 51, 3) := by decide +kernel
theorem dX9_init_104 : decode cX9_init 104 = .ok (.dup, 1) := by decide +kernel
theorem dX9_init_105 : decode cX9_init 105 = .ok (.invokespecial 53, 3) := by decide +kernel
theorem dX9_init_108 : decode cX9_init 108 = .ok (.putfield 54, 3) := by decide +kernel
theorem dX9_init_111 : decode cX9_init 111 = .ok (.aload_n 0, 1) := by decide +kernel
theorem dX9_init_112 : decode cX9_init 112 = .ok (.new 58, 3) := by decide +kernel
theorem dX9_init_115 : decode cX9_init 115 = .ok (.dup, 1) := by decide +kernel
theorem dX9_init_116 : decode cX9_init 116 = .ok (.invokespecial 60, 3) := by decide +kernel
theorem dX9_init_119 : decode cX9_init 119 = .ok (.putfield 61, 3) := by decide +kernel
theorem dX9_init_122 : decode cX9_init 122 = .ok (.aload_n 0, 1) := by decide +kernel
theorem dX9_init_123 : decode cX9_init 123 = .ok (.new 65, 3) := by decide +kernel
theorem dX9_init_126 : decode cX9_init 126 = .ok (.dup, 1) := by decide +kernel
theorem dX9_init_127 : decode cX9_init 127 = .ok (.invokespecial 67, 3) := by decide +kernel
theorem dX9_init_130 : decode cX9_init 130 = .ok (.putfield 68, 3) := by decide +kernel
theorem dX9_init_133 : decode cX9_init 133 = .ok (.aload_n 0, 1) := by decide +kernel
theorem dX9_init_134 : decode cX9_init 134 = .ok (.iconst 4, 1) := by decide +kernel
theorem dX9_init_135 : decode cX9_init 135 = .ok (.newarray .int, 2) := by decide +kernel
theorem dX9_init_137 : decode cX9_init 137 = .ok (.putfield 72, 3) := by decide +kernel
theorem dX9_init_140 : decode cX9_init 140 = .ok (.aload_n 0, 1) := by decide +kernel
theorem dX9_init_141 : decode cX9_init 141 = .ok (.iconst 4, 1) := by decide +kernel
theorem dX9_init_142 : decode cX9_init 142 = .ok (.newarray .int, 2) := by decide +kernel
theorem dX9_init_144 : decode cX9_init 144 = .ok (.putfield 76, 3) := by decide +kernel
theorem dX9_init_147 : decode cX9_init 147 = .ok (.aload_n 0, 1) := by decide +kernel
theorem dX9_init_148 : decode cX9_init 148 = .ok (.bipush 6, 2) := by decide +kernel
theorem dX9_init_150 : decode cX9_init 150 = .ok (.newarray .int, 2) := by decide +kernel
theorem dX9_init_152 : decode cX9_init 152 = .ok (.putfield 79, 3) := by decide +kernel
theorem dX9_init_155 : decode cX9_init 155 = .ok (.return_, 1) := by decide +kernel
theorem dX9_feed_0 : decode cX9_feed 0 = .ok (.aload_n 0, 1) := by decide +kernel
theorem dX9_feed_1 : decode cX9_feed 1 = .ok (.getfield 82, 3) := by decide +kernel
theorem dX9_feed_4 : decode cX9_feed 4 = .ok (.bipush 20, 2) := by decide +kernel
theorem dX9_feed_6 : decode cX9_feed 6 = .ok (.iadd, 1) := by decide +kernel
theorem dX9_feed_7 : decode cX9_feed 7 = .ok (.sipush 700, 3) := by decide +kernel
theorem dX9_feed_10 : decode cX9_feed 10 = .ok (.if_icmp .le 5, 3) := by decide +kernel
theorem dX9_feed_13 : decode cX9_feed 13 = .ok (.iconst (-1), 1) := by decide +kernel
theorem dX9_feed_14 : decode cX9_feed 14 = .ok (.ireturn, 1) := by decide +kernel
theorem dX9_feed_15 : decode cX9_feed 15 = .ok (.aload_n 0, 1) := by decide +kernel
theorem dX9_feed_16 : decode cX9_feed 16 = .ok (.aload_n 0, 1) := by decide +kernel
theorem dX9_feed_17 : decode cX9_feed 17 = .ok (.getfield 82, 3) := by decide +kernel
theorem dX9_feed_20 : decode cX9_feed 20 = .ok (.iload_n 1, 1) := by decide +kernel
theorem dX9_feed_21 : decode cX9_feed 21 = .ok (.invokevirtual 85, 3) := by decide +kernel
theorem dX9_feed_24 : decode cX9_feed 24 = .ok (.aload_n 0, 1) := by decide +kernel
theorem dX9_feed_25 : decode cX9_feed 25 = .ok (.aload_n 0, 1) := by decide +kernel
theorem dX9_feed_26 : decode cX9_feed 26 = .ok (.getfield 82, 3) := by decide +kernel
theorem dX9_feed_29 : decode cX9_feed 29 = .ok (.iconst 4, 1) := by decide +kernel
theorem dX9_feed_30 : decode cX9_feed 30 = .ok (.iadd, 1) := by decide +kernel
theorem dX9_feed_31 : decode cX9_feed 31 = .ok (.iload_n 2, 1) := by decide +kernel
theorem dX9_feed_32 : decode cX9_feed 32 = .ok (.invokevirtual 85, 3) := by decide +kernel
theorem dX9_feed_35 : decode cX9_feed 35 = .ok (.aload_n 0, 1) := by decide +kernel
theorem dX9_feed_36 : decode cX9_feed 36 = .ok (.aload_n 0, 1) := by decide +kernel
theorem dX9_feed_37 : decode cX9_feed 37 = .ok (.getfield 82, 3) := by decide +kernel
theorem dX9_feed_40 : decode cX9_feed 40 = .ok (.bipush 8, 2) := by decide +kernel
theorem dX9_feed_42 : decode cX9_feed 42 = .ok (.iadd, 1) := by decide +kernel
theorem dX9_feed_43 : decode cX9_feed 43 = .ok (.iload_n 3, 1) := by decide +kernel
theorem dX9_feed_44 : decode cX9_feed 44 = .ok (.invokevirtual 85, 3) := by decide +kernel
theorem dX9_feed_47 : decode cX9_feed 47 = .ok (.aload_n 0, 1) := by decide +kernel
theorem dX9_feed_48 : decode cX9_feed 48 = .ok (.aload_n 0, 1) := by decide +kernel
theorem dX9_feed_49 : decode cX9_feed 49 = .ok (.getfield 82, 3) := by decide +kernel
theorem dX9_feed_52 : decode cX9_feed 52 = .ok (.bipush 12, 2) := by decide +kernel
theorem dX9_feed_54 : decode cX9_feed 54 = .ok (.iadd, 1) := by decide +kernel
theorem dX9_feed_55 : decode cX9_feed 55 = .ok (.iload 4, 2) := by decide +kernel
theorem dX9_feed_57 : decode cX9_feed 57 = .ok (.invokevirtual 85, 3) := by decide +kernel
theorem dX9_feed_60 : decode cX9_feed 60 = .ok (.aload_n 0, 1) := by decide +kernel
theorem dX9_feed_61 : decode cX9_feed 61 = .ok (.aload_n 0, 1) := by decide +kernel
theorem dX9_feed_62 : decode cX9_feed 62 = .ok (.getfield 82, 3) := by decide +kernel
theorem dX9_feed_65 : decode cX9_feed 65 = .ok (.bipush 16, 2) := by decide +kernel
theorem dX9_feed_67 : decode cX9_feed 67 = .ok (.iadd, 1) := by decide +kernel
theorem dX9_feed_68 : decode cX9_feed 68 = .ok (.iload 5, 2) := by decide +kernel
theorem dX9_feed_70 : decode cX9_feed 70 = .ok (.invokevirtual 85, 3) := by decide +kernel
theorem dX9_feed_73 : decode cX9_feed 73 = .ok (.aload_n 0, 1) := by decide +kernel
theorem dX9_feed_74 : decode cX9_feed 74 = .ok (.dup, 1) := by decide +kernel
theorem dX9_feed_75 : decode cX9_feed 75 = .ok (.getfield 82, 3) := by decide +kernel
theorem dX9_feed_78 : decode cX9_feed 78 = .ok (.bipush 20, 2) := by decide +kernel
theorem dX9_feed_80 : decode cX9_feed 80 = .ok (.iadd, 1) := by decide +kernel
theorem dX9_feed_81 : decode cX9_feed 81 = .ok (.putfield 82, 3) := by decide +kernel
theorem dX9_feed_84 : decode cX9_feed 84 = .ok (.aload_n 0, 1) := by decide +kernel
theorem dX9_feed_85 : decode cX9_feed 85 = .ok (.getfield 82, 3) := by decide +kernel
theorem dX9_feed_88 : decode cX9_feed 88 = .ok (.ireturn, 1) := by decide +kernel
theorem dX9_putFour_0 : decode cX9_putFour 0 = .ok (.iload_n 1, 1) := by decide +kernel
theorem dX9_putFour_1 : decode cX9_putFour 1 = .ok (.ifCond .lt 12, 3) := by decide +kernel
theorem dX9_putFour_4 : decode cX9_putFour 4 = .ok (.iload_n 1, 1) := by decide +kernel
theorem dX9_putFour_5 : decode cX9_putFour 5 = .ok (.iconst 4, 1) := by decide +kernel
theorem dX9_putFour_6 : decode cX9_putFour 6 = .ok (.iadd, 1) := by decide +kernel
theorem dX9_putFour_7 : decode cX9_putFour 7 = .ok (.sipush 700, 3) := by decide +kernel
theorem dX9_putFour_10 : decode cX9_putFour 10 = .ok (.if_icmp .le 4, 3) := by decide +kernel
theorem dX9_putFour_13 : decode cX9_putFour 13 = .ok (.return_, 1) := by decide +kernel
theorem dX9_putFour_14 : decode cX9_putFour 14 = .ok (.iconst 0, 1) := by decide +kernel
theorem dX9_putFour_15 : decode cX9_putFour 15 = .ok (.istore_n 3, 1) := by decide +kernel
theorem dX9_putFour_16 : decode cX9_putFour 16 = .ok (.iload_n 3, 1) := by decide +kernel
theorem dX9_putFour_17 : decode cX9_putFour 17 = .ok (.iconst 4, 1) := by decide +kernel
theorem dX9_putFour_18 : decode cX9_putFour 18 = .ok (.if_icmp .ge 27, 3) := by decide +kernel
theorem dX9_putFour_21 : decode cX9_putFour 21 = .ok (.aload_n 0, 1) := by decide +kernel
theorem dX9_putFour_22 : decode cX9_putFour 22 = .ok (.getfield 11, 3) := by decide +kernel
theorem dX9_putFour_25 : decode cX9_putFour 25 = .ok (.iload_n 1, 1) := by decide +kernel
theorem dX9_putFour_26 : decode cX9_putFour 26 = .ok (.iload_n 3, 1) := by decide +kernel
theorem dX9_putFour_27 : decode cX9_putFour 27 = .ok (.iadd, 1) := by decide +kernel
theorem dX9_putFour_28 : decode cX9_putFour 28 = .ok (.iload_n 2, 1) := by decide +kernel
theorem dX9_putFour_29 : decode cX9_putFour 29 = .ok (.bipush 24, 2) := by decide +kernel
theorem dX9_putFour_31 : decode cX9_putFour 31 = .ok (.bipush 8, 2) := by decide +kernel
theorem dX9_putFour_33 : decode cX9_putFour 33 = .ok (.iload_n 3, 1) := by decide +kernel
theorem dX9_putFour_34 : decode cX9_putFour 34 = .ok (.imul, 1) := by decide +kernel
theorem dX9_putFour_35 : decode cX9_putFour 35 = .ok (.isub, 1) := by decide +kernel
theorem dX9_putFour_36 : decode cX9_putFour 36 = .ok (.iushr, 1) := by decide +kernel
theorem dX9_putFour_37 : decode cX9_putFour 37 = .ok (.i2b, 1) := by decide +kernel
theorem dX9_putFour_38 : decode cX9_putFour 38 = .ok (.bastore, 1) := by decide +kernel
theorem dX9_putFour_39 : decode cX9_putFour 39 = .ok (.iinc 3 1, 3) := by decide +kernel
theorem dX9_putFour_42 : decode cX9_putFour 42 = .ok (.goto (-26), 3) := by decide +kernel
theorem dX9_putFour_45 : decode cX9_putFour 45 = .ok (.return_, 1) := by decide +kernel
theorem dX9_text_0 : decode cX9_text 0 = .ok (.iload_n 1, 1) := by decide +kernel
theorem dX9_text_1 : decode cX9_text 1 = .ok (.ifCond .lt 11, 3) := by decide +kernel
theorem dX9_text_4 : decode cX9_text 4 = .ok (.iload_n 1, 1) := by decide +kernel
theorem dX9_text_5 : decode cX9_text 5 = .ok (.aload_n 0, 1) := by decide +kernel
theorem dX9_text_6 : decode cX9_text 6 = .ok (.getfield 82, 3) := by decide +kernel
theorem dX9_text_9 : decode cX9_text 9 = .ok (.if_icmp .le 6, 3) := by decide +kernel
theorem dX9_text_12 : decode cX9_text 12 = .ok (.bipush (-2), 2) := by decide +kernel
theorem dX9_text_14 : decode cX9_text 14 = .ok (.ireturn, 1) := by decide +kernel
theorem dX9_text_15 : decode cX9_text 15 = .ok (.aload_n 0, 1) := by decide +kernel
theorem dX9_text_16 : decode cX9_text 16 = .ok (.iconst 0, 1) := by decide +kernel
theorem dX9_text_17 : decode cX9_text 17 = .ok (.putfield 82, 3) := by decide +kernel
theorem dX9_text_20 : decode cX9_text 20 = .ok (.aload_n 0, 1) := by decide +kernel
theorem dX9_text_21 : decode cX9_text 21 = .ok (.getfield 30, 3) := by decide +kernel
theorem dX9_text_24 : decode cX9_text 24 = .ok (.aload_n 0, 1) := by decide +kernel
theorem dX9_text_25 : decode cX9_text 25 = .ok (.getfield 11, 3) := by decide +kernel
theorem dX9_text_28 : decode cX9_text 28 = .ok (.iload_n 1, 1) := by decide +kernel
theorem dX9_text_29 : decode cX9_text 29 = .ok (.aload_n 0, 1) := by decide +kernel
theorem dX9_text_30 : decode cX9_text 30 = .ok (.getfield 22, 3) := by decide +kernel
theorem dX9_text_33 : decode cX9_text 33 = .ok (.invokevirtual 89, 3) := by decide +kernel
theorem dX9_text_36 : decode cX9_text 36 = .ok (.istore_n 2, 1) := by decide +kernel
theorem dX9_text_37 : decode cX9_text 37 = .ok (.aload_n 0, 1) := by decide +kernel
theorem dX9_text_38 : decode cX9_text 38 = .ok (.aload_n 0, 1) := by decide +kernel
theorem dX9_text_39 : decode cX9_text 39 = .ok (.getfield 30, 3) := by decide +kernel
theorem dX9_text_42 : decode cX9_text 42 = .ok (.getfield 93, 3) := by decide +kernel
theorem dX9_text_45 : decode cX9_text 45 = .ok (.putfield 96, 3) := by decide +kernel
theorem dX9_text_48 : decode cX9_text 48 = .ok (.aload_n 0, 1) := by decide +kernel
theorem dX9_text_49 : decode cX9_text 49 = .ok (.aload_n 0, 1) := by decide +kernel
theorem dX9_text_50 : decode cX9_text 50 = .ok (.getfield 30, 3) := by decide +kernel
theorem dX9_text_53 : decode cX9_text 53 = .ok (.getfield 99, 3) := by decide +kernel
theorem dX9_text_56 : decode cX9_text 56 = .ok (.putfield 34, 3) := by decide +kernel
theorem dX9_text_59 : decode cX9_text 59 = .ok (.iload_n 2, 1) := by decide +kernel
theorem dX9_text_60 : decode cX9_text 60 = .ok (.ifCond .ge 5, 3) := by decide +kernel
theorem dX9_text_63 : decode cX9_text 63 = .ok (.iconst (-1), 1) := by decide +kernel
theorem dX9_text_64 : decode cX9_text 64 = .ok (.ireturn, 1) := by decide +kernel
theorem dX9_text_65 : decode cX9_text 65 = .ok (.aload_n 0, 1) := by decide +kernel
theorem dX9_text_66 : decode cX9_text 66 = .ok (.getfield 22, 3) := by decide +kernel
theorem dX9_text_69 : decode cX9_text 69 = .ok (.astore_n 3, 1) := by decide +kernel
theorem dX9_text_70 : decode cX9_text 70 = .ok (.aload_n 0, 1) := by decide +kernel
theorem dX9_text_71 : decode cX9_text 71 = .ok (.aload_n 0, 1) := by decide +kernel
theorem dX9_text_72 : decode cX9_text 72 = .ok (.getfield 18, 3) := by decide +kernel
theorem dX9_text_75 : decode cX9_text 75 = .ok (.putfield 22, 3) := by decide +kernel
theorem dX9_text_78 : decode cX9_text 78 = .ok (.aload_n 0, 1) := by decide +kernel
theorem dX9_text_79 : decode cX9_text 79 = .ok (.aload_n 3, 1) := by decide +kernel
theorem dX9_text_80 : decode cX9_text 80 = .ok (.putfield 18, 3) := by decide +kernel
theorem dX9_text_83 : decode cX9_text 83 = .ok (.aload_n 0, 1) := by decide +kernel
theorem dX9_text_84 : decode cX9_text 84 = .ok (.getfield 41, 3) := by decide +kernel
theorem dX9_text_87 : decode cX9_text 87 = .ok (.aload_n 0, 1) := by decide +kernel
theorem dX9_text_88 : decode cX9_text 88 = .ok (.getfield 18, 3) := by decide +kernel
theorem dX9_text_91 : decode cX9_text 91 = .ok (.invokevirtual 100, 3) := by decide +kernel
theorem dX9_text_94 : decode cX9_text 94 = .ok (.aload_n 0, 1) := by decide +kernel
theorem dX9_text_95 : decode cX9_text 95 = .ok (.iconst 0, 1) := by decide +kernel
theorem dX9_text_96 : decode cX9_text 96 = .ok (.putfield 103, 3) := by decide +kernel
theorem dX9_text_99 : decode cX9_text 99 = .ok (.aload_n 0, 1) := by decide +kernel
theorem dX9_text_100 : decode cX9_text 100 = .ok (.getfield 54, 3) := by decide +kernel
theorem dX9_text_103 : decode cX9_text 103 = .ok (.iconst 0, 1) := by decide +kernel
theorem dX9_text_104 : decode cX9_text 104 = .ok (.putfield 107, 3) := by decide +kernel
theorem dX9_text_107 : decode cX9_text 107 = .ok (.aload_n 0, 1) := by decide +kernel
theorem dX9_text_108 : decode cX9_text 108 = .ok (.getfield 61, 3) := by decide +kernel
theorem dX9_text_111 : decode cX9_text 111 = .ok (.invokevirtual 110, 3) := by decide +kernel
theorem dX9_text_114 : decode cX9_text 114 = .ok (.iload_n 2, 1) := by decide +kernel
theorem dX9_text_115 : decode cX9_text 115 = .ok (.ireturn, 1) := by decide +kernel
theorem dX9_fault_0 : decode cX9_fault 0 = .ok (.iload_n 1, 1) := by decide +kernel
theorem dX9_fault_1 : decode cX9_fault 1 = .ok (.ifCond .ne 8, 3) := by decide +kernel
theorem dX9_fault_4 : decode cX9_fault 4 = .ok (.aload_n 0, 1) := by decide +kernel
theorem dX9_fault_5 : decode cX9_fault 5 = .ok (.getfield 96, 3) := by decide +kernel
theorem dX9_fault_8 : decode cX9_fault 8 = .ok (.ireturn, 1) := by decide +kernel
theorem dX9_fault_9 : decode cX9_fault 9 = .ok (.iload_n 1, 1) := by decide +kernel
theorem dX9_fault_10 : decode cX9_fault 10 = .ok (.iconst 1, 1) := by decide +kernel
theorem dX9_fault_11 : decode cX9_fault 11 = .ok (.if_icmp .ne 10, 3) := by decide +kernel
theorem dX9_fault_14 : decode cX9_fault 14 = .ok (.aload_n 0, 1) := by decide +kernel
theorem dX9_fault_15 : decode cX9_fault 15 = .ok (.getfield 34, 3) := by decide +kernel
theorem dX9_fault_18 : decode cX9_fault 18 = .ok (.goto 4, 3) := by decide +kernel
theorem dX9_fault_21 : decode cX9_fault 21 = .ok (.iconst (-1), 1) := by decide +kernel
theorem dX9_fault_22 : decode cX9_fault 22 = .ok (.ireturn, 1) := by decide +kernel
theorem dX9_named_0 : decode cX9_named 0 = .ok (.iload_n 1, 1) := by decide +kernel
theorem dX9_named_1 : decode cX9_named 1 = .ok (.ifCond .ne 22, 3) := by decide +kernel
theorem dX9_named_4 : decode cX9_named 4 = .ok (.aload_n 0, 1) := by decide +kernel
theorem dX9_named_5 : decode cX9_named 5 = .ok (.getfield 18, 3) := by decide +kernel
theorem dX9_named_8 : decode cX9_named 8 = .ok (.getfield 113, 3) := by decide +kernel
theorem dX9_named_11 : decode cX9_named 11 = .ok (.aload_n 0, 1) := by decide +kernel
theorem dX9_named_12 : decode cX9_named 12 = .ok (.getfield 18, 3) := by decide +kernel
theorem dX9_named_15 : decode cX9_named 15 = .ok (.getfield 116, 3) := by decide +kernel
theorem dX9_named_18 : decode cX9_named 18 = .ok (.iload_n 2, 1) := by decide +kernel
theorem dX9_named_19 : decode cX9_named 19 = .ok (.invokestatic 119, 3) := by decide +kernel
theorem dX9_named_22 : decode cX9_named 22 = .ok (.ireturn, 1) := by decide +kernel
theorem dX9_named_23 : decode cX9_named 23 = .ok (.iload_n 1, 1) := by decide +kernel
theorem dX9_named_24 : decode cX9_named 24 = .ok (.iconst 1, 1) := by decide +kernel
theorem dX9_named_25 : decode cX9_named 25 = .ok (.if_icmp .ne 24, 3) := by decide +kernel
theorem dX9_named_28 : decode cX9_named 28 = .ok (.aload_n 0, 1) := by decide +kernel
theorem dX9_named_29 : decode cX9_named 29 = .ok (.getfield 18, 3) := by decide +kernel
theorem dX9_named_32 : decode cX9_named 32 = .ok (.getfield 123, 3) := by decide +kernel
theorem dX9_named_35 : decode cX9_named 35 = .ok (.aload_n 0, 1) := by decide +kernel
theorem dX9_named_36 : decode cX9_named 36 = .ok (.getfield 18, 3) := by decide +kernel
theorem dX9_named_39 : decode cX9_named 39 = .ok (.getfield 126, 3) := by decide +kernel
theorem dX9_named_42 : decode cX9_named 42 = .ok (.iload_n 2, 1) := by decide +kernel
theorem dX9_named_43 : decode cX9_named 43 = .ok (.invokestatic 119, 3) := by decide +kernel
theorem dX9_named_46 : decode cX9_named 46 = .ok (.goto 4, 3) := by decide +kernel
theorem dX9_named_49 : decode cX9_named 49 = .ok (.iconst (-1), 1) := by decide +kernel
theorem dX9_named_50 : decode cX9_named 50 = .ok (.ireturn, 1) := by decide +kernel
theorem dX9_find_0 : decode cX9_find 0 = .ok (.iconst 0, 1) := by decide +kernel
theorem dX9_find_1 : decode cX9_find 1 = .ok (.istore_n 3, 1) := by decide +kernel
theorem dX9_find_2 : decode cX9_find 2 = .ok (.iload_n 3, 1) := by decide +kernel
theorem dX9_find_3 : decode cX9_find 3 = .ok (.iload_n 1, 1) := by decide +kernel
theorem dX9_find_4 : decode cX9_find 4 = .ok (.if_icmp .ge 24, 3) := by decide +kernel
theorem dX9_find_7 : decode cX9_find 7 = .ok (.iload_n 3, 1) := by decide +kernel
theorem dX9_find_8 : decode cX9_find 8 = .ok (.aload_n 0, 1) := by decide +kernel
theorem dX9_find_9 : decode cX9_find 9 = .ok (.arraylength, 1) := by decide +kernel
theorem dX9_find_10 : decode cX9_find 10 = .ok (.if_icmp .ge 18, 3) := by decide +kernel
theorem dX9_find_13 : decode cX9_find 13 = .ok (.aload_n 0, 1) := by decide +kernel
theorem dX9_find_14 : decode cX9_find 14 = .ok (.iload_n 3, 1) := by decide +kernel
theorem dX9_find_15 : decode cX9_find 15 = .ok (.iaload, 1) := by decide +kernel
theorem dX9_find_16 : decode cX9_find 16 = .ok (.iload_n 2, 1) := by decide +kernel
theorem dX9_find_17 : decode cX9_find 17 = .ok (.if_icmp .ne 5, 3) := by decide +kernel
theorem dX9_find_20 : decode cX9_find 20 = .ok (.iload_n 3, 1) := by decide +kernel
theorem dX9_find_21 : decode cX9_find 21 = .ok (.ireturn, 1) := by decide +kernel
theorem dX9_find_22 : decode cX9_find 22 = .ok (.iinc 3 1, 3) := by decide +kernel
theorem dX9_find_25 : decode cX9_find 25 = .ok (.goto (-23), 3) := by decide +kernel
theorem dX9_find_28 : decode cX9_find 28 = .ok (.iconst (-1), 1) := by decide +kernel
theorem dX9_find_29 : decode cX9_find 29 = .ok (.ireturn, 1) := by decide +kernel
theorem dX9_isMan_0 : decode cX9_isMan 0 = .ok (.iload_n 1, 1) := by decide +kernel
theorem dX9_isMan_1 : decode cX9_isMan 1 = .ok (.ifCond .lt 18, 3) := by decide +kernel
theorem dX9_isMan_4 : decode cX9_isMan 4 = .ok (.iload_n 1, 1) := by decide +kernel
theorem dX9_isMan_5 : decode cX9_isMan 5 = .ok (.aload_n 0, 1) := by decide +kernel
theorem dX9_isMan_6 : decode cX9_isMan 6 = .ok (.getfield 18, 3) := by decide +kernel
theorem dX9_isMan_9 : decode cX9_isMan 9 = .ok (.getfield 116, 3) := by decide +kernel
theorem dX9_isMan_12 : decode cX9_isMan 12 = .ok (.if_icmp .ge 7, 3) := by decide +kernel
theorem dX9_isMan_15 : decode cX9_isMan 15 = .ok (.iconst 1, 1) := by decide +kernel
theorem dX9_isMan_16 : decode cX9_isMan 16 = .ok (.goto 4, 3) := by decide +kernel
theorem dX9_isMan_19 : decode cX9_isMan 19 = .ok (.iconst 0, 1) := by decide +kernel
theorem dX9_isMan_20 : decode cX9_isMan 20 = .ok (.ireturn, 1) := by decide +kernel
theorem dX9_isThing_0 : decode cX9_isThing 0 = .ok (.iload_n 1, 1) := by decide +kernel
theorem dX9_isThing_1 : decode cX9_isThing 1 = .ok (.ifCond .lt 18, 3) := by decide +kernel
theorem dX9_isThing_4 : decode cX9_isThing 4 = .ok (.iload_n 1, 1) := by decide +kernel
theorem dX9_isThing_5 : decode cX9_isThing 5 = .ok (.aload_n 0, 1) := by decide +kernel
theorem dX9_isThing_6 : decode cX9_isThing 6 = .ok (.getfield 18, 3) := by decide +kernel
theorem dX9_isThing_9 : decode cX9_isThing 9 = .ok (.getfield 126, 3) := by decide +kernel
theorem dX9_isThing_12 : decode cX9_isThing 12 = .ok (.if_icmp .ge 7, 3) := by decide +kernel
theorem dX9_isThing_15 : decode cX9_isThing 15 = .ok (.iconst 1, 1) := by decide +kernel
theorem dX9_isThing_16 : decode cX9_isThing 16 = .ok (.goto 4, 3) := by decide +kernel
theorem dX9_isThing_19 : decode cX9_isThing 19 = .ok (.iconst 0, 1) := by decide +kernel
theorem dX9_isThing_20 : decode cX9_isThing 20 = .ok (.ireturn, 1) := by decide +kernel
theorem dX9_man_0 : decode cX9_man 0 = .ok (.aload_n 0, 1) := by decide +kernel
theorem dX9_man_1 : decode cX9_man 1 = .ok (.iload_n 1, 1) := by decide +kernel
theorem dX9_man_2 : decode cX9_man 2 = .ok (.invokevirtual 129, 3) := by decide +kernel
theorem dX9_man_5 : decode cX9_man 5 = .ok (.ifCond .ne 13, 3) := by decide +kernel
theorem dX9_man_8 : decode cX9_man 8 = .ok (.new 133, 3) := by decide +kernel
theorem dX9_man_11 : decode cX9_man 11 = .ok (.dup, 1) := by decide +kernel
theorem dX9_man_12 : decode cX9_man 12 = .ok (.ldc 135, 2) := by decide +kernel
theorem dX9_man_14 : decode cX9_man 14 = .ok (.invokespecial 137, 3) := by decide +kernel
theorem dX9_man_17 : decode cX9_man 17 = .ok (.athrow, 1) := by decide +kernel
theorem dX9_man_18 : decode cX9_man 18 = .ok (.iload_n 2, 1) := by decide +kernel
theorem dX9_man_19 : decode cX9_man 19 = .ok (.tableswitch 146 0 8 #[49, 59, 69, 79, 89, 99, 109, 119, 128], 49) := by decide +kernel
theorem dX9_man_68 : decode cX9_man 68 = .ok (.aload_n 0, 1) := by decide +kernel
theorem dX9_man_69 : decode cX9_man 69 = .ok (.getfield 18, 3) := by decide +kernel
theorem dX9_man_72 : decode cX9_man 72 = .ok (.getfield 140, 3) := by decide +kernel
theorem dX9_man_75 : decode cX9_man 75 = .ok (.iload_n 1, 1) := by decide +kernel
theorem dX9_man_76 : decode cX9_man 76 = .ok (.iaload, 1) := by decide +kernel
theorem dX9_man_77 : decode cX9_man 77 = .ok (.ireturn, 1) := by decide +kernel
theorem dX9_man_78 : decode cX9_man 78 = .ok (.aload_n 0, 1) := by decide +kernel
theorem dX9_man_79 : decode cX9_man 79 = .ok (.getfield 41, 3) := by decide +kernel
theorem dX9_man_82 : decode cX9_man 82 = .ok (.getfield 143, 3) := by decide +kernel
theorem dX9_man_85 : decode cX9_man 85 = .ok (.iload_n 1, 1) := by decide +kernel
theorem dX9_man_86 : decode cX9_man 86 = .ok (.iaload, 1) := by decide +kernel
theorem dX9_man_87 : decode cX9_man 87 = .ok (.ireturn, 1) := by decide +kernel
theorem dX9_man_88 : decode cX9_man 88 = .ok (.aload_n 0, 1) := by decide +kernel
theorem dX9_man_89 : decode cX9_man 89 = .ok (.getfield 18, 3) := by decide +kernel
theorem dX9_man_92 : decode cX9_man 92 = .ok (.getfield 146, 3) := by decide +kernel
theorem dX9_man_95 : decode cX9_man 95 = .ok (.iload_n 1, 1) := by decide +kernel
theorem dX9_man_96 : decode cX9_man 96 = .ok (.iaload, 1) := by decide +kernel
theorem dX9_man_97 : decode cX9_man 97 = .ok (.ireturn, 1) := by decide +kernel
theorem dX9_man_98 : decode cX9_man 98 = .ok (.aload_n 0, 1) := by decide +kernel
theorem dX9_man_99 : decode cX9_man 99 = .ok (.getfield 41, 3) := by decide +kernel
theorem dX9_man_102 : decode cX9_man 102 = .ok (.getfield 149, 3) := by decide +kernel
theorem dX9_man_105 : decode cX9_man 105 = .ok (.iload_n 1, 1) := by decide +kernel
theorem dX9_man_106 : decode cX9_man 106 = .ok (.iaload, 1) := by decide +kernel
theorem dX9_man_107 : decode cX9_man 107 = .ok (.ireturn, 1) := by decide +kernel
theorem dX9_man_108 : decode cX9_man 108 = .ok (.aload_n 0, 1) := by decide +kernel
theorem dX9_man_109 : decode cX9_man 109 = .ok (.getfield 41, 3) := by decide +kernel
theorem dX9_man_112 : decode cX9_man 112 = .ok (.getfield 152, 3) := by decide +kernel
theorem dX9_man_115 : decode cX9_man 115 = .ok (.iload_n 1, 1) := by decide +kernel
theorem dX9_man_116 : decode cX9_man 116 = .ok (.iaload, 1) := by decide +kernel
theorem dX9_man_117 : decode cX9_man 117 = .ok (.ireturn, 1) := by decide +kernel
theorem dX9_man_118 : decode cX9_man 118 = .ok (.aload_n 0, 1) := by decide +kernel
theorem dX9_man_119 : decode cX9_man 119 = .ok (.getfield 41, 3) := by decide +kernel
theorem dX9_man_122 : decode cX9_man 122 = .ok (.getfield 155, 3) := by decide +kernel
theorem dX9_man_125 : decode cX9_man 125 = .ok (.iload_n 1, 1) := by decide +kernel
theorem dX9_man_126 : decode cX9_man 126 = .ok (.iaload, 1) := by decide +kernel
theorem dX9_man_127 : decode cX9_man 127 = .ok (.ireturn, 1) := by decide +kernel
theorem dX9_man_128 : decode cX9_man 128 = .ok (.aload_n 0, 1) := by decide +kernel
theorem dX9_man_129 : decode cX9_man 129 = .ok (.getfield 41, 3) := by decide +kernel
theorem dX9_man_132 : decode cX9_man 132 = .ok (.getfield 158, 3) := by decide +kernel
theorem dX9_man_135 : decode cX9_man 135 = .ok (.iload_n 1, 1) := by decide +kernel
theorem dX9_man_136 : decode cX9_man 136 = .ok (.iaload, 1) := by decide +kernel
theorem dX9_man_137 : decode cX9_man 137 = .ok (.ireturn, 1) := by decide +kernel
theorem dX9_man_138 : decode cX9_man 138 = .ok (.aload_n 0, 1) := by decide +kernel
theorem dX9_man_139 : decode cX9_man 139 = .ok (.getfield 41, 3) := by decide +kernel
theorem dX9_man_142 : decode cX9_man 142 = .ok (.iload_n 1, 1) := by decide +kernel
theorem dX9_man_143 : decode cX9_man 143 = .ok (.invokevirtual 161, 3) := by decide +kernel
theorem dX9_man_146 : decode cX9_man 146 = .ok (.ireturn, 1) := by decide +kernel
theorem dX9_man_147 : decode cX9_man 147 = .ok (.aload_n 0, 1) := by decide +kernel
theorem dX9_man_148 : decode cX9_man 148 = .ok (.getfield 41, 3) := by decide +kernel
theorem dX9_man_151 : decode cX9_man 151 = .ok (.getfield 165, 3) := by decide +kernel
theorem dX9_man_154 : decode cX9_man 154 = .ok (.iload_n 1, 1) := by decide +kernel
theorem dX9_man_155 : decode cX9_man 155 = .ok (.baload, 1) := by decide +kernel
theorem dX9_man_156 : decode cX9_man 156 = .ok (.ifCond .eq 7, 3) := by decide +kernel
theorem dX9_man_159 : decode cX9_man 159 = .ok (.iconst 1, 1) := by decide +kernel
theorem dX9_man_160 : decode cX9_man 160 = .ok (.goto 4, 3) := by decide +kernel
theorem dX9_man_163 : decode cX9_man 163 = .ok (.iconst 0, 1) := by decide +kernel
theorem dX9_man_164 : decode cX9_man 164 = .ok (.ireturn, 1) := by decide +kernel
theorem dX9_man_165 : decode cX9_man 165 = .ok (.new 169, 3) := by decide +kernel
theorem dX9_man_168 : decode cX9_man 168 = .ok (.dup, 1) := by decide +kernel
theorem dX9_man_169 : decode cX9_man 169 = .ok (.ldc 171, 2) := by decide +kernel
theorem dX9_man_171 : decode cX9_man 171 = .ok (.invokespecial 173, 3) := by decide +kernel
theorem dX9_man_174 : decode cX9_man 174 = .ok (.athrow, 1) := by decide +kernel
theorem dX9_thing_0 : decode cX9_thing 0 = .ok (.aload_n 0, 1) := by decide +kernel
theorem dX9_thing_1 : decode cX9_thing 1 = .ok (.iload_n 1, 1) := by decide +kernel
theorem dX9_thing_2 : decode cX9_thing 2 = .ok (.invokevirtual 174, 3) := by decide +kernel
theorem dX9_thing_5 : decode cX9_thing 5 = .ok (.ifCond .ne 5, 3) := by decide +kernel
theorem dX9_thing_8 : decode cX9_thing 8 = .ok (.iconst (-1), 1) := by decide +kernel
theorem dX9_thing_9 : decode cX9_thing 9 = .ok (.ireturn, 1) := by decide +kernel
theorem dX9_thing_10 : decode cX9_thing 10 = .ok (.iload_n 2, 1) := by decide +kernel
theorem dX9_thing_11 : decode cX9_thing 11 = .ok (.tableswitch 82 0 4 #[33, 43, 53, 63, 73], 33) := by decide +kernel
theorem dX9_thing_44 : decode cX9_thing 44 = .ok (.aload_n 0, 1) := by decide +kernel
theorem dX9_thing_45 : decode cX9_thing 45 = .ok (.getfield 18, 3) := by decide +kernel
theorem dX9_thing_48 : decode cX9_thing 48 = .ok (.getfield 177, 3) := by decide +kernel
theorem dX9_thing_51 : decode cX9_thing 51 = .ok (.iload_n 1, 1) := by decide +kernel
theorem dX9_thing_52 : decode cX9_thing 52 = .ok (.iaload, 1) := by decide +kernel
theorem dX9_thing_53 : decode cX9_thing 53 = .ok (.ireturn, 1) := by decide +kernel
theorem dX9_thing_54 : decode cX9_thing 54 = .ok (.aload_n 0, 1) := by decide +kernel
theorem dX9_thing_55 : decode cX9_thing 55 = .ok (.getfield 18, 3) := by decide +kernel
theorem dX9_thing_58 : decode cX9_thing 58 = .ok (.getfield 180, 3) := by decide +kernel
theorem dX9_thing_61 : decode cX9_thing 61 = .ok (.iload_n 1, 1) := by decide +kernel
theorem dX9_thing_62 : decode cX9_thing 62 = .ok (.iaload, 1) := by decide +kernel
theorem dX9_thing_63 : decode cX9_thing 63 = .ok (.ireturn, 1) := by decide +kernel
theorem dX9_thing_64 : decode cX9_thing 64 = .ok (.aload_n 0, 1) := by decide +kernel
theorem dX9_thing_65 : decode cX9_thing 65 = .ok (.getfield 41, 3) := by decide +kernel
theorem dX9_thing_68 : decode cX9_thing 68 = .ok (.getfield 183, 3) := by decide +kernel
theorem dX9_thing_71 : decode cX9_thing 71 = .ok (.iload_n 1, 1) := by decide +kernel
theorem dX9_thing_72 : decode cX9_thing 72 = .ok (.iaload, 1) := by decide +kernel
theorem dX9_thing_73 : decode cX9_thing 73 = .ok (.ireturn, 1) := by decide +kernel
theorem dX9_thing_74 : decode cX9_thing 74 = .ok (.aload_n 0, 1) := by decide +kernel
theorem dX9_thing_75 : decode cX9_thing 75 = .ok (.getfield 41, 3) := by decide +kernel
theorem dX9_thing_78 : decode cX9_thing 78 = .ok (.getfield 186, 3) := by decide +kernel
theorem dX9_thing_81 : decode cX9_thing 81 = .ok (.iload_n 1, 1) := by decide +kernel
theorem dX9_thing_82 : decode cX9_thing 82 = .ok (.iaload, 1) := by decide +kernel
theorem dX9_thing_83 : decode cX9_thing 83 = .ok (.ireturn, 1) := by decide +kernel
theorem dX9_thing_84 : decode cX9_thing 84 = .ok (.aload_n 0, 1) := by decide +kernel
theorem dX9_thing_85 : decode cX9_thing 85 = .ok (.getfield 41, 3) := by decide +kernel
theorem dX9_thing_88 : decode cX9_thing 88 = .ok (.iload_n 1, 1) := by decide +kernel
theorem dX9_thing_89 : decode cX9_thing 89 = .ok (.invokevirtual 189, 3) := by decide +kernel
theorem dX9_thing_92 : decode cX9_thing 92 = .ok (.ireturn, 1) := by decide +kernel
theorem dX9_thing_93 : decode cX9_thing 93 = .ok (.iconst (-1), 1) := by decide +kernel
theorem dX9_thing_94 : decode cX9_thing 94 = .ok (.ireturn, 1) := by decide +kernel
theorem dX9_law_0 : decode cX9_law 0 = .ok (.iload_n 1, 1) := by decide +kernel
theorem dX9_law_1 : decode cX9_law 1 = .ok (.ifCond .lt 16, 3) := by decide +kernel
theorem dX9_law_4 : decode cX9_law 4 = .ok (.iload_n 1, 1) := by decide +kernel
theorem dX9_law_5 : decode cX9_law 5 = .ok (.iconst 3, 1) := by decide +kernel
theorem dX9_law_6 : decode cX9_law 6 = .ok (.if_icmp .ge 11, 3) := by decide +kernel
theorem dX9_law_9 : decode cX9_law 9 = .ok (.aload_n 0, 1) := by decide +kernel
theorem dX9_law_10 : decode cX9_law 10 = .ok (.iload_n 2, 1) := by decide +kernel
theorem dX9_law_11 : decode cX9_law 11 = .ok (.invokevirtual 129, 3) := by decide +kernel
theorem dX9_law_14 : decode cX9_law 14 = .ok (.ifCond .ne 7, 3) := by decide +kernel
theorem dX9_law_17 : decode cX9_law 17 = .ok (.ldc2_w 192, 3) := by decide +kernel
theorem dX9_law_20 : decode cX9_law 20 = .ok (.lreturn, 1) := by decide +kernel
theorem dX9_law_21 : decode cX9_law 21 = .ok (.aload_n 0, 1) := by decide +kernel
theorem dX9_law_22 : decode cX9_law 22 = .ok (.getfield 41, 3) := by decide +kernel
theorem dX9_law_25 : decode cX9_law 25 = .ok (.iload_n 2, 1) := by decide +kernel
theorem dX9_law_26 : decode cX9_law 26 = .ok (.iload_n 1, 1) := by decide +kernel
theorem dX9_law_27 : decode cX9_law 27 = .ok (.ifCond .ne 13, 3) := by decide +kernel
theorem dX9_law_30 : decode cX9_law 30 = .ok (.aload_n 0, 1) := by decide +kernel
theorem dX9_law_31 : decode cX9_law 31 = .ok (.getfield 41, 3) := by decide +kernel
theorem dX9_law_34 : decode cX9_law 34 = .ok (.invokevirtual 194, 3) := by decide +kernel
theorem dX9_law_37 : decode cX9_law 37 = .ok (.goto 12, 3) := by decide +kernel
theorem dX9_law_40 : decode cX9_law 40 = .ok (.aload_n 0, 1) := by decide +kernel
theorem dX9_law_41 : decode cX9_law 41 = .ok (.getfield 41, 3) := by decide +kernel
theorem dX9_law_44 : decode cX9_law 44 = .ok (.getfield 155, 3) := by decide +kernel
theorem dX9_law_47 : decode cX9_law 47 = .ok (.iload_n 2, 1) := by decide +kernel
theorem dX9_law_48 : decode cX9_law 48 = .ok (.iaload, 1) := by decide +kernel
theorem dX9_law_49 : decode cX9_law 49 = .ok (.iconst 0, 1) := by decide +kernel
theorem dX9_law_50 : decode cX9_law 50 = .ok (.invokevirtual 198, 3) := by decide +kernel
theorem dX9_law_53 : decode cX9_law 53 = .ok (.aload_n 0, 1) := by decide +kernel
theorem dX9_law_54 : decode cX9_law 54 = .ok (.getfield 18, 3) := by decide +kernel
theorem dX9_law_57 : decode cX9_law 57 = .ok (.getfield 202, 3) := by decide +kernel
theorem dX9_law_60 : decode cX9_law 60 = .ok (.iload_n 1, 1) := by decide +kernel
theorem dX9_law_61 : decode cX9_law 61 = .ok (.invokevirtual 206, 3) := by decide +kernel
theorem dX9_law_64 : decode cX9_law 64 = .ok (.lreturn, 1) := by decide +kernel
theorem dX9_count_0 : decode cX9_count 0 = .ok (.iload_n 1, 1) := by decide +kernel
theorem dX9_count_1 : decode cX9_count 1 = .ok (.tableswitch 202 0 14 #[75, 83, 91, 102, 110, 119, 128, 137, 146, 154, 162, 170, 178, 186, 194], 75) := by decide +kernel
theorem dX9_count_76 : decode cX9_count 76 = .ok (.aload_n 0, 1) := by decide +kernel
theorem dX9_count_77 : decode cX9_count 77 = .ok (.getfield 18, 3) := by decide +kernel
theorem dX9_count_80 : decode cX9_count 80 = .ok (.getfield 116, 3) := by decide +kernel
theorem dX9_count_83 : decode cX9_count 83 = .ok (.ireturn, 1) := by decide +kernel
theorem dX9_count_84 : decode cX9_count 84 = .ok (.aload_n 0, 1) := by decide +kernel
theorem dX9_count_85 : decode cX9_count 85 = .ok (.getfield 18, 3) := by decide +kernel
theorem dX9_count_88 : decode cX9_count 88 = .ok (.getfield 126, 3) := by decide +kernel
theorem dX9_count_91 : decode cX9_count 91 = .ok (.ireturn, 1) := by decide +kernel
theorem dX9_count_92 : decode cX9_count 92 = .ok (.aload_n 0, 1) := by decide +kernel
theorem dX9_count_93 : decode cX9_count 93 = .ok (.getfield 18, 3) := by decide +kernel
theorem dX9_count_96 : decode cX9_count 96 = .ok (.getfield 202, 3) := by decide +kernel
theorem dX9_count_99 : decode cX9_count 99 = .ok (.getfield 212, 3) := by decide +kernel
theorem dX9_count_102 : decode cX9_count 102 = .ok (.ireturn, 1) := by decide +kernel
theorem dX9_count_103 : decode cX9_count 103 = .ok (.aload_n 0, 1) := by decide +kernel
theorem dX9_count_104 : decode cX9_count 104 = .ok (.getfield 41, 3) := by decide +kernel
theorem dX9_count_107 : decode cX9_count 107 = .ok (.getfield 215, 3) := by decide +kernel
theorem dX9_count_110 : decode cX9_count 110 = .ok (.ireturn, 1) := by decide +kernel
theorem dX9_count_111 : decode cX9_count 111 = .ok (.aload_n 0, 1) := by decide +kernel
theorem dX9_count_112 : decode cX9_count 112 = .ok (.getfield 41, 3) := by decide +kernel
theorem dX9_count_115 : decode cX9_count 115 = .ok (.iconst 2, 1) := by decide +kernel
theorem dX9_count_116 : decode cX9_count 116 = .ok (.invokevirtual 218, 3) := by decide +kernel
theorem dX9_count_119 : decode cX9_count 119 = .ok (.ireturn, 1) := by decide +kernel
theorem dX9_count_120 : decode cX9_count 120 = .ok (.aload_n 0, 1) := by decide +kernel
theorem dX9_count_121 : decode cX9_count 121 = .ok (.getfield 41, 3) := by decide +kernel
theorem dX9_count_124 : decode cX9_count 124 = .ok (.iconst 3, 1) := by decide +kernel
theorem dX9_count_125 : decode cX9_count 125 = .ok (.invokevirtual 218, 3) := by decide +kernel
theorem dX9_count_128 : decode cX9_count 128 = .ok (.ireturn, 1) := by decide +kernel
theorem dX9_count_129 : decode cX9_count 129 = .ok (.aload_n 0, 1) := by decide +kernel
theorem dX9_count_130 : decode cX9_count 130 = .ok (.getfield 41, 3) := by decide +kernel
theorem dX9_count_133 : decode cX9_count 133 = .ok (.iconst 2, 1) := by decide +kernel
theorem dX9_count_134 : decode cX9_count 134 = .ok (.invokevirtual 221, 3) := by decide +kernel
theorem dX9_count_137 : decode cX9_count 137 = .ok (.ireturn, 1) := by decide +kernel
theorem dX9_count_138 : decode cX9_count 138 = .ok (.aload_n 0, 1) := by decide +kernel
theorem dX9_count_139 : decode cX9_count 139 = .ok (.getfield 41, 3) := by decide +kernel
theorem dX9_count_142 : decode cX9_count 142 = .ok (.iconst 1, 1) := by decide +kernel
theorem dX9_count_143 : decode cX9_count 143 = .ok (.invokevirtual 221, 3) := by decide +kernel
theorem dX9_count_146 : decode cX9_count 146 = .ok (.ireturn, 1) := by decide +kernel
theorem dX9_count_147 : decode cX9_count 147 = .ok (.aload_n 0, 1) := by decide +kernel
theorem dX9_count_148 : decode cX9_count 148 = .ok (.getfield 41, 3) := by decide +kernel
theorem dX9_count_151 : decode cX9_count 151 = .ok (.getfield 224, 3) := by decide +kernel
theorem dX9_count_154 : decode cX9_count 154 = .ok (.ireturn, 1) := by decide +kernel
theorem dX9_count_155 : decode cX9_count 155 = .ok (.aload_n 0, 1) := by decide +kernel
theorem dX9_count_156 : decode cX9_count 156 = .ok (.getfield 41, 3) := by decide +kernel
theorem dX9_count_159 : decode cX9_count 159 = .ok (.getfield 227, 3) := by decide +kernel
theorem dX9_count_162 : decode cX9_count 162 = .ok (.ireturn, 1) := by decide +kernel
theorem dX9_count_163 : decode cX9_count 163 = .ok (.aload_n 0, 1) := by decide +kernel
theorem dX9_count_164 : decode cX9_count 164 = .ok (.getfield 41, 3) := by decide +kernel
theorem dX9_count_167 : decode cX9_count 167 = .ok (.invokevirtual 230, 3) := by decide +kernel
theorem dX9_count_170 : decode cX9_count 170 = .ok (.ireturn, 1) := by decide +kernel
theorem dX9_count_171 : decode cX9_count 171 = .ok (.aload_n 0, 1) := by decide +kernel
theorem dX9_count_172 : decode cX9_count 172 = .ok (.getfield 41, 3) := by decide +kernel
theorem dX9_count_175 : decode cX9_count 175 = .ok (.getfield 233, 3) := by decide +kernel
theorem dX9_count_178 : decode cX9_count 178 = .ok (.ireturn, 1) := by decide +kernel
theorem dX9_count_179 : decode cX9_count 179 = .ok (.aload_n 0, 1) := by decide +kernel
theorem dX9_count_180 : decode cX9_count 180 = .ok (.getfield 61, 3) := by decide +kernel
theorem dX9_count_183 : decode cX9_count 183 = .ok (.getfield 236, 3) := by decide +kernel
theorem dX9_count_186 : decode cX9_count 186 = .ok (.ireturn, 1) := by decide +kernel
theorem dX9_count_187 : decode cX9_count 187 = .ok (.aload_n 0, 1) := by decide +kernel
theorem dX9_count_188 : decode cX9_count 188 = .ok (.getfield 61, 3) := by decide +kernel
theorem dX9_count_191 : decode cX9_count 191 = .ok (.invokevirtual 237, 3) := by decide +kernel
theorem dX9_count_194 : decode cX9_count 194 = .ok (.ireturn, 1) := by decide +kernel
theorem dX9_count_195 : decode cX9_count 195 = .ok (.aload_n 0, 1) := by decide +kernel
theorem dX9_count_196 : decode cX9_count 196 = .ok (.getfield 54, 3) := by decide +kernel
theorem dX9_count_199 : decode cX9_count 199 = .ok (.getfield 107, 3) := by decide +kernel
theorem dX9_count_202 : decode cX9_count 202 = .ok (.ireturn, 1) := by decide +kernel
theorem dX9_count_203 : decode cX9_count 203 = .ok (.iconst (-1), 1) := by decide +kernel
theorem dX9_count_204 : decode cX9_count 204 = .ok (.ireturn, 1) := by decide +kernel
theorem dX9_pay_0 : decode cX9_pay 0 = .ok (.aload_n 0, 1) := by decide +kernel
theorem dX9_pay_1 : decode cX9_pay 1 = .ok (.iload_n 1, 1) := by decide +kernel
theorem dX9_pay_2 : decode cX9_pay 2 = .ok (.invokevirtual 129, 3) := by decide +kernel
theorem dX9_pay_5 : decode cX9_pay 5 = .ok (.ifCond .eq 14, 3) := by decide +kernel
theorem dX9_pay_8 : decode cX9_pay 8 = .ok (.iload_n 2, 1) := by decide +kernel
theorem dX9_pay_9 : decode cX9_pay 9 = .ok (.iconst 1, 1) := by decide +kernel
theorem dX9_pay_10 : decode cX9_pay 10 = .ok (.if_icmp .lt 9, 3) := by decide +kernel
theorem dX9_pay_13 : decode cX9_pay 13 = .ok (.iload_n 2, 1) := by decide +kernel
theorem dX9_pay_14 : decode cX9_pay 14 = .ok (.bipush 99, 2) := by decide +kernel
theorem dX9_pay_16 : decode cX9_pay 16 = .ok (.if_icmp .le 5, 3) := by decide +kernel
theorem dX9_pay_19 : decode cX9_pay 19 = .ok (.iconst (-1), 1) := by decide +kernel
theorem dX9_pay_20 : decode cX9_pay 20 = .ok (.ireturn, 1) := by decide +kernel
theorem dX9_pay_21 : decode cX9_pay 21 = .ok (.aload_n 0, 1) := by decide +kernel
theorem dX9_pay_22 : decode cX9_pay 22 = .ok (.getfield 41, 3) := by decide +kernel
theorem dX9_pay_25 : decode cX9_pay 25 = .ok (.getfield 227, 3) := by decide +kernel
theorem dX9_pay_28 : decode cX9_pay 28 = .ok (.iload_n 2, 1) := by decide +kernel
theorem dX9_pay_29 : decode cX9_pay 29 = .ok (.if_icmp .ge 6, 3) := by decide +kernel
theorem dX9_pay_32 : decode cX9_pay 32 = .ok (.bipush (-2), 2) := by decide +kernel
theorem dX9_pay_34 : decode cX9_pay 34 = .ok (.ireturn, 1) := by decide +kernel
theorem dX9_pay_35 : decode cX9_pay 35 = .ok (.aload_n 0, 1) := by decide +kernel
theorem dX9_pay_36 : decode cX9_pay 36 = .ok (.getfield 41, 3) := by decide +kernel
theorem dX9_pay_39 : decode cX9_pay 39 = .ok (.dup, 1) := by decide +kernel
theorem dX9_pay_40 : decode cX9_pay 40 = .ok (.getfield 227, 3) := by decide +kernel
theorem dX9_pay_43 : decode cX9_pay 43 = .ok (.iload_n 2, 1) := by decide +kernel
theorem dX9_pay_44 : decode cX9_pay 44 = .ok (.isub, 1) := by decide +kernel
theorem dX9_pay_45 : decode cX9_pay 45 = .ok (.putfield 227, 3) := by decide +kernel
theorem dX9_pay_48 : decode cX9_pay 48 = .ok (.aload_n 0, 1) := by decide +kernel
theorem dX9_pay_49 : decode cX9_pay 49 = .ok (.getfield 41, 3) := by decide +kernel
theorem dX9_pay_52 : decode cX9_pay 52 = .ok (.getfield 149, 3) := by decide +kernel
theorem dX9_pay_55 : decode cX9_pay 55 = .ok (.iload_n 1, 1) := by decide +kernel
theorem dX9_pay_56 : decode cX9_pay 56 = .ok (.dup2, 1) := by decide +kernel
theorem dX9_pay_57 : decode cX9_pay 57 = .ok (.iaload, 1) := by decide +kernel
theorem dX9_pay_58 : decode cX9_pay 58 = .ok (.iload_n 2, 1) := by decide +kernel
theorem dX9_pay_59 : decode cX9_pay 59 = .ok (.iadd, 1) := by decide +kernel
theorem dX9_pay_60 : decode cX9_pay 60 = .ok (.iastore, 1) := by decide +kernel
theorem dX9_pay_61 : decode cX9_pay 61 = .ok (.aload_n 0, 1) := by decide +kernel
theorem dX9_pay_62 : decode cX9_pay 62 = .ok (.getfield 54, 3) := by decide +kernel
theorem dX9_pay_65 : decode cX9_pay 65 = .ok (.iconst 0, 1) := by decide +kernel
theorem dX9_pay_66 : decode cX9_pay 66 = .ok (.iload_n 1, 1) := by decide +kernel
theorem dX9_pay_67 : decode cX9_pay 67 = .ok (.iload_n 2, 1) := by decide +kernel
theorem dX9_pay_68 : decode cX9_pay 68 = .ok (.invokevirtual 240, 3) := by decide +kernel
theorem dX9_pay_71 : decode cX9_pay 71 = .ok (.aload_n 0, 1) := by decide +kernel
theorem dX9_pay_72 : decode cX9_pay 72 = .ok (.getfield 41, 3) := by decide +kernel
theorem dX9_pay_75 : decode cX9_pay 75 = .ok (.getfield 227, 3) := by decide +kernel
theorem dX9_pay_78 : decode cX9_pay 78 = .ok (.ireturn, 1) := by decide +kernel
theorem dX9_swap_0 : decode cX9_swap 0 = .ok (.aload_n 0, 1) := by decide +kernel
theorem dX9_swap_1 : decode cX9_swap 1 = .ok (.iload_n 1, 1) := by decide +kernel
theorem dX9_swap_2 : decode cX9_swap 2 = .ok (.iload_n 2, 1) := by decide +kernel
theorem dX9_swap_3 : decode cX9_swap 3 = .ok (.invokevirtual 243, 3) := by decide +kernel
theorem dX9_swap_6 : decode cX9_swap 6 = .ok (.ifCond .ne 5, 3) := by decide +kernel
theorem dX9_swap_9 : decode cX9_swap 9 = .ok (.iconst 0, 1) := by decide +kernel
theorem dX9_swap_10 : decode cX9_swap 10 = .ok (.ireturn, 1) := by decide +kernel
theorem dX9_swap_11 : decode cX9_swap 11 = .ok (.aload_n 0, 1) := by decide +kernel
theorem dX9_swap_12 : decode cX9_swap 12 = .ok (.getfield 41, 3) := by decide +kernel
theorem dX9_swap_15 : decode cX9_swap 15 = .ok (.iload_n 1, 1) := by decide +kernel
theorem dX9_swap_16 : decode cX9_swap 16 = .ok (.iload_n 2, 1) := by decide +kernel
theorem dX9_swap_17 : decode cX9_swap 17 = .ok (.invokevirtual 247, 3) := by decide +kernel
theorem dX9_swap_20 : decode cX9_swap 20 = .ok (.aload_n 0, 1) := by decide +kernel
theorem dX9_swap_21 : decode cX9_swap 21 = .ok (.getfield 54, 3) := by decide +kernel
theorem dX9_swap_24 : decode cX9_swap 24 = .ok (.iconst 1, 1) := by decide +kernel
theorem dX9_swap_25 : decode cX9_swap 25 = .ok (.iload_n 1, 1) := by decide +kernel
theorem dX9_swap_26 : decode cX9_swap 26 = .ok (.iload_n 2, 1) := by decide +kernel
theorem dX9_swap_27 : decode cX9_swap 27 = .ok (.invokevirtual 240, 3) := by decide +kernel
theorem dX9_swap_30 : decode cX9_swap 30 = .ok (.iconst 1, 1) := by decide +kernel
theorem dX9_swap_31 : decode cX9_swap 31 = .ok (.ireturn, 1) := by decide +kernel
theorem dX9_areTwo_0 : decode cX9_areTwo 0 = .ok (.aload_n 0, 1) := by decide +kernel
theorem dX9_areTwo_1 : decode cX9_areTwo 1 = .ok (.iload_n 1, 1) := by decide +kernel
theorem dX9_areTwo_2 : decode cX9_areTwo 2 = .ok (.invokevirtual 129, 3) := by decide +kernel
theorem dX9_areTwo_5 : decode cX9_areTwo 5 = .ok (.ifCond .eq 20, 3) := by decide +kernel
theorem dX9_areTwo_8 : decode cX9_areTwo 8 = .ok (.aload_n 0, 1) := by decide +kernel
theorem dX9_areTwo_9 : decode cX9_areTwo 9 = .ok (.iload_n 2, 1) := by decide +kernel
theorem dX9_areTwo_10 : decode cX9_areTwo 10 = .ok (.invokevirtual 129, 3) := by decide +kernel
theorem dX9_areTwo_13 : decode cX9_areTwo 13 = .ok (.ifCond .eq 12, 3) := by decide +kernel
theorem dX9_areTwo_16 : decode cX9_areTwo 16 = .ok (.iload_n 1, 1) := by decide +kernel
theorem dX9_areTwo_17 : decode cX9_areTwo 17 = .ok (.iload_n 2, 1) := by decide +kernel
theorem dX9_areTwo_18 : decode cX9_areTwo 18 = .ok (.if_icmp .eq 7, 3) := by decide +kernel
theorem dX9_areTwo_21 : decode cX9_areTwo 21 = .ok (.iconst 1, 1) := by decide +kernel
theorem dX9_areTwo_22 : decode cX9_areTwo 22 = .ok (.goto 4, 3) := by decide +kernel
theorem dX9_areTwo_25 : decode cX9_areTwo 25 = .ok (.iconst 0, 1) := by decide +kernel
theorem dX9_areTwo_26 : decode cX9_areTwo 26 = .ok (.ireturn, 1) := by decide +kernel
theorem dX9_hold_0 : decode cX9_hold 0 = .ok (.aload_n 0, 1) := by decide +kernel
theorem dX9_hold_1 : decode cX9_hold 1 = .ok (.iload_n 1, 1) := by decide +kernel
theorem dX9_hold_2 : decode cX9_hold 2 = .ok (.invokevirtual 129, 3) := by decide +kernel
theorem dX9_hold_5 : decode cX9_hold 5 = .ok (.ifCond .eq 16, 3) := by decide +kernel
theorem dX9_hold_8 : decode cX9_hold 8 = .ok (.aload_n 0, 1) := by decide +kernel
theorem dX9_hold_9 : decode cX9_hold 9 = .ok (.getfield 41, 3) := by decide +kernel
theorem dX9_hold_12 : decode cX9_hold 12 = .ok (.getfield 165, 3) := by decide +kernel
theorem dX9_hold_15 : decode cX9_hold 15 = .ok (.iload_n 1, 1) := by decide +kernel
theorem dX9_hold_16 : decode cX9_hold 16 = .ok (.baload, 1) := by decide +kernel
theorem dX9_hold_17 : decode cX9_hold 17 = .ok (.iload_n 2, 1) := by decide +kernel
theorem dX9_hold_18 : decode cX9_hold 18 = .ok (.if_icmp .ne 5, 3) := by decide +kernel
theorem dX9_hold_21 : decode cX9_hold 21 = .ok (.iconst 0, 1) := by decide +kernel
theorem dX9_hold_22 : decode cX9_hold 22 = .ok (.ireturn, 1) := by decide +kernel
theorem dX9_hold_23 : decode cX9_hold 23 = .ok (.aload_n 0, 1) := by decide +kernel
theorem dX9_hold_24 : decode cX9_hold 24 = .ok (.getfield 41, 3) := by decide +kernel
theorem dX9_hold_27 : decode cX9_hold 27 = .ok (.getfield 165, 3) := by decide +kernel
theorem dX9_hold_30 : decode cX9_hold 30 = .ok (.iload_n 1, 1) := by decide +kernel
theorem dX9_hold_31 : decode cX9_hold 31 = .ok (.iload_n 2, 1) := by decide +kernel
theorem dX9_hold_32 : decode cX9_hold 32 = .ok (.bastore, 1) := by decide +kernel
theorem dX9_hold_33 : decode cX9_hold 33 = .ok (.aload_n 0, 1) := by decide +kernel
theorem dX9_hold_34 : decode cX9_hold 34 = .ok (.getfield 54, 3) := by decide +kernel
theorem dX9_hold_37 : decode cX9_hold 37 = .ok (.iconst 2, 1) := by decide +kernel
theorem dX9_hold_38 : decode cX9_hold 38 = .ok (.iload_n 1, 1) := by decide +kernel
theorem dX9_hold_39 : decode cX9_hold 39 = .ok (.iconst 0, 1) := by decide +kernel
theorem dX9_hold_40 : decode cX9_hold 40 = .ok (.invokevirtual 240, 3) := by decide +kernel
theorem dX9_hold_43 : decode cX9_hold 43 = .ok (.iconst 1, 1) := by decide +kernel
theorem dX9_hold_44 : decode cX9_hold 44 = .ok (.ireturn, 1) := by decide +kernel
theorem dX9_wet_0 : decode cX9_wet 0 = .ok (.aload_n 0, 1) := by decide +kernel
theorem dX9_wet_1 : decode cX9_wet 1 = .ok (.iload_n 1, 1) := by decide +kernel
theorem dX9_wet_2 : decode cX9_wet 2 = .ok (.invokevirtual 174, 3) := by decide +kernel
theorem dX9_wet_5 : decode cX9_wet 5 = .ok (.ifCond .eq 26, 3) := by decide +kernel
theorem dX9_wet_8 : decode cX9_wet 8 = .ok (.iload_n 2, 1) := by decide +kernel
theorem dX9_wet_9 : decode cX9_wet 9 = .ok (.iconst 1, 1) := by decide +kernel
theorem dX9_wet_10 : decode cX9_wet 10 = .ok (.if_icmp .lt 21, 3) := by decide +kernel
theorem dX9_wet_13 : decode cX9_wet 13 = .ok (.iload_n 2, 1) := by decide +kernel
theorem dX9_wet_14 : decode cX9_wet 14 = .ok (.bipush 20, 2) := by decide +kernel
theorem dX9_wet_16 : decode cX9_wet 16 = .ok (.if_icmp .gt 15, 3) := by decide +kernel
theorem dX9_wet_19 : decode cX9_wet 19 = .ok (.aload_n 0, 1) := by decide +kernel
theorem dX9_wet_20 : decode cX9_wet 20 = .ok (.getfield 41, 3) := by decide +kernel
theorem dX9_wet_23 : decode cX9_wet 23 = .ok (.getfield 186, 3) := by decide +kernel
theorem dX9_wet_26 : decode cX9_wet 26 = .ok (.iload_n 1, 1) := by decide +kernel
theorem dX9_wet_27 : decode cX9_wet 27 = .ok (.iaload, 1) := by decide +kernel
theorem dX9_wet_28 : decode cX9_wet 28 = .ok (.ifCond .eq 5, 3) := by decide +kernel
theorem dX9_wet_31 : decode cX9_wet 31 = .ok (.iconst (-1), 1) := by decide +kernel
theorem dX9_wet_32 : decode cX9_wet 32 = .ok (.ireturn, 1) := by decide +kernel
theorem dX9_wet_33 : decode cX9_wet 33 = .ok (.aload_n 0, 1) := by decide +kernel
theorem dX9_wet_34 : decode cX9_wet 34 = .ok (.getfield 54, 3) := by decide +kernel
theorem dX9_wet_37 : decode cX9_wet 37 = .ok (.iconst 3, 1) := by decide +kernel
theorem dX9_wet_38 : decode cX9_wet 38 = .ok (.iload_n 1, 1) := by decide +kernel
theorem dX9_wet_39 : decode cX9_wet 39 = .ok (.aload_n 0, 1) := by decide +kernel
theorem dX9_wet_40 : decode cX9_wet 40 = .ok (.getfield 41, 3) := by decide +kernel
theorem dX9_wet_43 : decode cX9_wet 43 = .ok (.getfield 183, 3) := by decide +kernel
theorem dX9_wet_46 : decode cX9_wet 46 = .ok (.iload_n 1, 1) := by decide +kernel
theorem dX9_wet_47 : decode cX9_wet 47 = .ok (.iaload, 1) := by decide +kernel
theorem dX9_wet_48 : decode cX9_wet 48 = .ok (.invokevirtual 240, 3) := by decide +kernel
theorem dX9_wet_51 : decode cX9_wet 51 = .ok (.aload_n 0, 1) := by decide +kernel
theorem dX9_wet_52 : decode cX9_wet 52 = .ok (.getfield 41, 3) := by decide +kernel
theorem dX9_wet_55 : decode cX9_wet 55 = .ok (.getfield 183, 3) := by decide +kernel
theorem dX9_wet_58 : decode cX9_wet 58 = .ok (.iload_n 1, 1) := by decide +kernel
theorem dX9_wet_59 : decode cX9_wet 59 = .ok (.sipush 999, 3) := by decide +kernel
theorem dX9_wet_62 : decode cX9_wet 62 = .ok (.aload_n 0, 1) := by decide +kernel
theorem dX9_wet_63 : decode cX9_wet 63 = .ok (.getfield 41, 3) := by decide +kernel
theorem dX9_wet_66 : decode cX9_wet 66 = .ok (.getfield 183, 3) := by decide +kernel
theorem dX9_wet_69 : decode cX9_wet 69 = .ok (.iload_n 1, 1) := by decide +kernel
theorem dX9_wet_70 : decode cX9_wet 70 = .ok (.iaload, 1) := by decide +kernel
theorem dX9_wet_71 : decode cX9_wet 71 = .ok (.iload_n 2, 1) := by decide +kernel
theorem dX9_wet_72 : decode cX9_wet 72 = .ok (.iadd, 1) := by decide +kernel
theorem dX9_wet_73 : decode cX9_wet 73 = .ok (.invokestatic 250, 3) := by decide +kernel
theorem dX9_wet_76 : decode cX9_wet 76 = .ok (.iastore, 1) := by decide +kernel
theorem dX9_wet_77 : decode cX9_wet 77 = .ok (.aload_n 0, 1) := by decide +kernel
theorem dX9_wet_78 : decode cX9_wet 78 = .ok (.getfield 41, 3) := by decide +kernel
theorem dX9_wet_81 : decode cX9_wet 81 = .ok (.getfield 183, 3) := by decide +kernel
theorem dX9_wet_84 : decode cX9_wet 84 = .ok (.iload_n 1, 1) := by decide +kernel
theorem dX9_wet_85 : decode cX9_wet 85 = .ok (.iaload, 1) := by decide +kernel
theorem dX9_wet_86 : decode cX9_wet 86 = .ok (.ireturn, 1) := by decide +kernel
theorem dX9_undo_0 : decode cX9_undo 0 = .ok (.aload_n 0, 1) := by decide +kernel
theorem dX9_undo_1 : decode cX9_undo 1 = .ok (.getfield 54, 3) := by decide +kernel
theorem dX9_undo_4 : decode cX9_undo 4 = .ok (.getfield 107, 3) := by decide +kernel
theorem dX9_undo_7 : decode cX9_undo 7 = .ok (.iconst 1, 1) := by decide +kernel
theorem dX9_undo_8 : decode cX9_undo 8 = .ok (.if_icmp .lt 15, 3) := by decide +kernel
theorem dX9_undo_11 : decode cX9_undo 11 = .ok (.aload_n 0, 1) := by decide +kernel
theorem dX9_undo_12 : decode cX9_undo 12 = .ok (.getfield 54, 3) := by decide +kernel
theorem dX9_undo_15 : decode cX9_undo 15 = .ok (.getfield 107, 3) := by decide +kernel
theorem dX9_undo_18 : decode cX9_undo 18 = .ok (.bipush 20, 2) := by decide +kernel
theorem dX9_undo_20 : decode cX9_undo 20 = .ok (.if_icmp .le 5, 3) := by decide +kernel
theorem dX9_undo_23 : decode cX9_undo 23 = .ok (.iconst (-1), 1) := by decide +kernel
theorem dX9_undo_24 : decode cX9_undo 24 = .ok (.ireturn, 1) := by decide +kernel
theorem dX9_undo_25 : decode cX9_undo 25 = .ok (.aload_n 0, 1) := by decide +kernel
theorem dX9_undo_26 : decode cX9_undo 26 = .ok (.getfield 54, 3) := by decide +kernel
theorem dX9_undo_29 : decode cX9_undo 29 = .ok (.dup, 1) := by decide +kernel
theorem dX9_undo_30 : decode cX9_undo 30 = .ok (.getfield 107, 3) := by decide +kernel
theorem dX9_undo_33 : decode cX9_undo 33 = .ok (.iconst 1, 1) := by decide +kernel
theorem dX9_undo_34 : decode cX9_undo 34 = .ok (.isub, 1) := by decide +kernel
theorem dX9_undo_35 : decode cX9_undo 35 = .ok (.putfield 107, 3) := by decide +kernel
theorem dX9_undo_38 : decode cX9_undo 38 = .ok (.aload_n 0, 1) := by decide +kernel
theorem dX9_undo_39 : decode cX9_undo 39 = .ok (.getfield 54, 3) := by decide +kernel
theorem dX9_undo_42 : decode cX9_undo 42 = .ok (.getfield 256, 3) := by decide +kernel
theorem dX9_undo_45 : decode cX9_undo 45 = .ok (.aload_n 0, 1) := by decide +kernel
theorem dX9_undo_46 : decode cX9_undo 46 = .ok (.getfield 54, 3) := by decide +kernel
theorem dX9_undo_49 : decode cX9_undo 49 = .ok (.getfield 107, 3) := by decide +kernel
theorem dX9_undo_52 : decode cX9_undo 52 = .ok (.iaload, 1) := by decide +kernel
theorem dX9_undo_53 : decode cX9_undo 53 = .ok (.istore_n 1, 1) := by decide +kernel
theorem dX9_undo_54 : decode cX9_undo 54 = .ok (.aload_n 0, 1) := by decide +kernel
theorem dX9_undo_55 : decode cX9_undo 55 = .ok (.getfield 54, 3) := by decide +kernel
theorem dX9_undo_58 : decode cX9_undo 58 = .ok (.getfield 259, 3) := by decide +kernel
theorem dX9_undo_61 : decode cX9_undo 61 = .ok (.aload_n 0, 1) := by decide +kernel
theorem dX9_undo_62 : decode cX9_undo 62 = .ok (.getfield 54, 3) := by decide +kernel
theorem dX9_undo_65 : decode cX9_undo 65 = .ok (.getfield 107, 3) := by decide +kernel
theorem dX9_undo_68 : decode cX9_undo 68 = .ok (.iaload, 1) := by decide +kernel
theorem dX9_undo_69 : decode cX9_undo 69 = .ok (.istore_n 2, 1) := by decide +kernel
