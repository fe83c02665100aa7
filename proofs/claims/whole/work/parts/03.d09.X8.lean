theorem dX8_init_0 : decode cX8_init 0 = .ok (.aload_n 0, 1) := by decide +kernel
theorem dX8_init_1 : decode cX8_init 1 = .ok (.invokespecial 3, 3) := by decide +kernel
theorem dX8_init_4 : decode cX8_init 4 = .ok (.aload_n 0, 1) := by decide +kernel
theorem dX8_init_5 : decode cX8_init 5 = .ok (.bipush 6, 2) := by decide +kernel
theorem dX8_init_7 : decode cX8_init 7 = .ok (.newarray .int, 2) := by decide +kernel
theorem dX8_init_9 : decode cX8_init 9 = .ok (.putfield 9, 3) := by decide +kernel
theorem dX8_init_12 : decode cX8_init 12 = .ok (.aload_n 0, 1) := by decide +kernel
theorem dX8_init_13 : decode cX8_init 13 = .ok (.bipush 6, 2) := by decide +kernel
theorem dX8_init_15 : decode cX8_init 15 = .ok (.newarray .int, 2) := by decide +kernel
theorem dX8_init_17 : decode cX8_init 17 = .ok (.putfield 15, 3) := by decide +kernel
theorem dX8_init_20 : decode cX8_init 20 = .ok (.aload_n 0, 1) := by decide +kernel
theorem dX8_init_21 : decode cX8_init 21 = .ok (.bipush 6, 2) := by decide +kernel
theorem dX8_init_23 : decode cX8_init 23 = .ok (.newarray .int, 2) := by decide +kernel
theorem dX8_init_25 : decode cX8_init 25 = .ok (.putfield 18, 3) := by decide +kernel
theorem dX8_init_28 : decode cX8_init 28 = .ok (.aload_n 0, 1) := by decide +kernel
theorem dX8_init_29 : decode cX8_init 29 = .ok (.bipush 6, 2) := by decide +kernel
theorem dX8_init_31 : decode cX8_init 31 = .ok (.newarray .int, 2) := by decide +kernel
theorem dX8_init_33 : decode cX8_init 33 = .ok (.putfield 21, 3) := by decide +kernel
theorem dX8_init_36 : decode cX8_init 36 = .ok (.aload_n 0, 1) := by decide +kernel
theorem dX8_init_37 : decode cX8_init 37 = .ok (.bipush 6, 2) := by decide +kernel
theorem dX8_init_39 : decode cX8_init 39 = .ok (.newarray .int, 2) := by decide +kernel
theorem dX8_init_41 : decode cX8_init 41 = .ok (.putfield 24, 3) := by decide +kernel
theorem dX8_init_44 : decode cX8_init 44 = .ok (.aload_n 0, 1) := by decide +kernel
theorem dX8_init_45 : decode cX8_init 45 = .ok (.bipush 6, 2) := by decide +kernel
theorem dX8_init_47 : decode cX8_init 47 = .ok (.newarray .int, 2) := by decide +kernel
theorem dX8_init_49 : decode cX8_init 49 = .ok (.putfield 27, 3) := by decide +kernel
theorem dX8_init_52 : decode cX8_init 52 = .ok (.aload_n 0, 1) := by decide +kernel
theorem dX8_init_53 : decode cX8_init 53 = .ok (.bipush 6, 2) := by decide +kernel
theorem dX8_init_55 : decode cX8_init 55 = .ok (.newarray .boolean, 2) := by decide +kernel
theorem dX8_init_57 : decode cX8_init 57 = .ok (.putfield 30, 3) := by decide +kernel
theorem dX8_init_60 : decode cX8_init 60 = .ok (.aload_n 0, 1) := by decide +kernel
theorem dX8_init_61 : decode cX8_init 61 = .ok (.bipush 8, 2) := by decide +kernel
theorem dX8_init_63 : decode cX8_init 63 = .ok (.newarray .int, 2) := by decide +kernel
theorem dX8_init_65 : decode cX8_init 65 = .ok (.putfield 34, 3) := by decide +kernel
theorem dX8_init_68 : decode cX8_init 68 = .ok (.aload_n 0, 1) := by decide +kernel
theorem dX8_init_69 : decode cX8_init 69 = .ok (.bipush 8, 2) := by decide +kernel
theorem dX8_init_71 : decode cX8_init 71 = .ok (.newarray .int, 2) := by decide +kernel
theorem dX8_init_73 : decode cX8_init 73 = .ok (.putfield 37, 3) := by decide +kernel
theorem dX8_init_76 : decode cX8_init 76 = .ok (.aload_n 0, 1) := by decide +kernel
theorem dX8_init_77 : decode cX8_init 77 = .ok (.aload_n 1, 1) := by decide +kernel
theorem dX8_init_78 : decode cX8_init 78 = .ok (.putfield 40, 3) := by decide +kernel
theorem dX8_init_81 : decode cX8_init 81 = .ok (.aload_n 0, 1) := by decide +kernel
theorem dX8_init_82 : decode cX8_init 82 = .ok (.aload_n 1, 1) := by decide +kernel
theorem dX8_init_83 : decode cX8_init 83 = .ok (.invokevirtual 44, 3) := by decide +kernel
theorem dX8_init_86 : decode cX8_init 86 = .ok (.return_, 1) := by decide +kernel
theorem dX8_begin_0 : decode cX8_begin 0 = .ok (.aload_n 0, 1) := by decide +kernel
theorem dX8_begin_1 : decode cX8_begin 1 = .ok (.aload_n 1, 1) := by decide +kernel
theorem dX8_begin_2 : decode cX8_begin 2 = .ok (.putfield 40, 3) := by decide +kernel
theorem dX8_begin_5 : decode cX8_begin 5 = .ok (.iconst 0, 1) := by decide +kernel
theorem dX8_begin_6 : decode cX8_begin 6 = .ok (.istore_n 2, 1) := by decide +kernel
theorem dX8_begin_7 : decode cX8_begin 7 = .ok (.iload_n 2, 1) := by decide +kernel
theorem dX8_begin_8 : decode cX8_begin 8 = .ok (.bipush 6, 2) := by decide +kernel
theorem dX8_begin_10 : decode cX8_begin 10 = .ok (.if_icmp .ge 64, 3) := by decide +kernel
theorem dX8_begin_13 : decode cX8_begin 13 = .ok (.aload_n 0, 1) := by decide +kernel
theorem dX8_begin_14 : decode cX8_begin 14 = .ok (.getfield 9, 3) := by decide +kernel
theorem dX8_begin_17 : decode cX8_begin 17 = .ok (.iload_n 2, 1) := by decide +kernel
theorem dX8_begin_18 : decode cX8_begin 18 = .ok (.iload_n 2, 1) := by decide +kernel
theorem dX8_begin_19 : decode cX8_begin 19 = .ok (.iastore, 1) := by decide +kernel
theorem dX8_begin_20 : decode cX8_begin 20 = .ok (.aload_n 0, 1) := by decide +kernel
theorem dX8_begin_21 : decode cX8_begin 21 = .ok (.getfield 15, 3) := by decide +kernel
theorem dX8_begin_24 : decode cX8_begin 24 = .ok (.iload_n 2, 1) := by decide +kernel
theorem dX8_begin_25 : decode cX8_begin 25 = .ok (.aload_n 1, 1) := by decide +kernel
theorem dX8_begin_26 : decode cX8_begin 26 = .ok (.getfield 48, 3) := by decide +kernel
theorem dX8_begin_29 : decode cX8_begin 29 = .ok (.iload_n 2, 1) := by decide +kernel
theorem dX8_begin_30 : decode cX8_begin 30 = .ok (.iaload, 1) := by decide +kernel
theorem dX8_begin_31 : decode cX8_begin 31 = .ok (.iastore, 1) := by decide +kernel
theorem dX8_begin_32 : decode cX8_begin 32 = .ok (.aload_n 0, 1) := by decide +kernel
theorem dX8_begin_33 : decode cX8_begin 33 = .ok (.getfield 18, 3) := by decide +kernel
theorem dX8_begin_36 : decode cX8_begin 36 = .ok (.iload_n 2, 1) := by decide +kernel
theorem dX8_begin_37 : decode cX8_begin 37 = .ok (.iconst 0, 1) := by decide +kernel
theorem dX8_begin_38 : decode cX8_begin 38 = .ok (.iastore, 1) := by decide +kernel
theorem dX8_begin_39 : decode cX8_begin 39 = .ok (.aload_n 0, 1) := by decide +kernel
theorem dX8_begin_40 : decode cX8_begin 40 = .ok (.getfield 21, 3) := by decide +kernel
theorem dX8_begin_43 : decode cX8_begin 43 = .ok (.iload_n 2, 1) := by decide +kernel
theorem dX8_begin_44 : decode cX8_begin 44 = .ok (.iconst 0, 1) := by decide +kernel
theorem dX8_begin_45 : decode cX8_begin 45 = .ok (.iastore, 1) := by decide +kernel
theorem dX8_begin_46 : decode cX8_begin 46 = .ok (.aload_n 0, 1) := by decide +kernel
theorem dX8_begin_47 : decode cX8_begin 47 = .ok (.getfield 24, 3) := by decide +kernel
theorem dX8_begin_50 : decode cX8_begin 50 = .ok (.iload_n 2, 1) := by decide +kernel
theorem dX8_begin_51 : decode cX8_begin 51 = .ok (.bipush (-2), 2) := by decide +kernel
theorem dX8_begin_53 : decode cX8_begin 53 = .ok (.iastore, 1) := by decide +kernel
theorem dX8_begin_54 : decode cX8_begin 54 = .ok (.aload_n 0, 1) := by decide +kernel
theorem dX8_begin_55 : decode cX8_begin 55 = .ok (.getfield 27, 3) := by decide +kernel
theorem dX8_begin_58 : decode cX8_begin 58 = .ok (.iload_n 2, 1) := by decide +kernel
theorem dX8_begin_59 : decode cX8_begin 59 = .ok (.iconst 0, 1) := by decide +kernel
theorem dX8_begin_60 : decode cX8_begin 60 = .ok (.iastore, 1) := by decide +kernel
theorem dX8_begin_61 : decode cX8_begin 61 = .ok (.aload_n 0, 1) := by decide +kernel
theorem dX8_begin_62 : decode cX8_begin 62 = .ok (.getfield 30, 3) := by decide +kernel
theorem dX8_begin_65 : decode cX8_begin 65 = .ok (.iload_n 2, 1) := by decide +kernel
theorem dX8_begin_66 : decode cX8_begin 66 = .ok (.iconst 0, 1) := by decide +kernel
theorem dX8_begin_67 : decode cX8_begin 67 = .ok (.bastore, 1) := by decide +kernel
theorem dX8_begin_68 : decode cX8_begin 68 = .ok (.iinc 2 1, 3) := by decide +kernel
theorem dX8_begin_71 : decode cX8_begin 71 = .ok (.goto (-64), 3) := by decide +kernel
theorem dX8_begin_74 : decode cX8_begin 74 = .ok (.iconst 0, 1) := by decide +kernel
theorem dX8_begin_75 : decode cX8_begin 75 = .ok (.istore_n 2, 1) := by decide +kernel
theorem dX8_begin_76 : decode cX8_begin 76 = .ok (.iload_n 2, 1) := by decide +kernel
theorem dX8_begin_77 : decode cX8_begin 77 = .ok (.bipush 8, 2) := by decide +kernel
theorem dX8_begin_79 : decode cX8_begin 79 = .ok (.if_icmp .ge 28, 3) := by decide +kernel
theorem dX8_begin_82 : decode cX8_begin 82 = .ok (.aload_n 0, 1) := by decide +kernel
theorem dX8_begin_83 : decode cX8_begin 83 = .ok (.getfield 34, 3) := by decide +kernel
theorem dX8_begin_86 : decode cX8_begin 86 = .ok (.iload_n 2, 1) := by decide +kernel
theorem dX8_begin_87 : decode cX8_begin 87 = .ok (.iconst 0, 1) := by decide +kernel
theorem dX8_begin_88 : decode cX8_begin 88 = .ok (.iastore, 1) := by decide +kernel
theorem dX8_begin_89 : decode cX8_begin 89 = .ok (.aload_n 0, 1) := by decide +kernel
theorem dX8_begin_90 : decode cX8_begin 90 = .ok (.getfield 37, 3) := by decide +kernel
theorem dX8_begin_93 : decode cX8_begin 93 = .ok (.iload_n 2, 1) := by decide +kernel
theorem dX8_begin_94 : decode cX8_begin 94 = .ok (.aload_n 1, 1) := by decide +kernel
theorem dX8_begin_95 : decode cX8_begin 95 = .ok (.getfield 51, 3) := by decide +kernel
theorem dX8_begin_98 : decode cX8_begin 98 = .ok (.iload_n 2, 1) := by decide +kernel
theorem dX8_begin_99 : decode cX8_begin 99 = .ok (.iaload, 1) := by decide +kernel
theorem dX8_begin_100 : decode cX8_begin 100 = .ok (.iastore, 1) := by decide +kernel
theorem dX8_begin_101 : decode cX8_begin 101 = .ok (.iinc 2 1, 3) := by decide +kernel
theorem dX8_begin_104 : decode cX8_begin 104 = .ok (.goto (-28), 3) := by decide +kernel
theorem dX8_begin_107 : decode cX8_begin 107 = .ok (.aload_n 0, 1) := by decide +kernel
theorem dX8_begin_108 : decode cX8_begin 108 = .ok (.iconst 0, 1) := by decide +kernel
theorem dX8_begin_109 : decode cX8_begin 109 = .ok (.putfield 52, 3) := by decide +kernel
theorem dX8_begin_112 : decode cX8_begin 112 = .ok (.aload_n 0, 1) := by decide +kernel
theorem dX8_begin_113 : decode cX8_begin 113 = .ok (.iconst 0, 1) := by decide +kernel
theorem dX8_begin_114 : decode cX8_begin 114 = .ok (.putfield 56, 3) := by decide +kernel
theorem dX8_begin_117 : decode cX8_begin 117 = .ok (.aload_n 0, 1) := by decide +kernel
theorem dX8_begin_118 : decode cX8_begin 118 = .ok (.aload_n 1, 1) := by decide +kernel
theorem dX8_begin_119 : decode cX8_begin 119 = .ok (.getfield 59, 3) := by decide +kernel
theorem dX8_begin_122 : decode cX8_begin 122 = .ok (.iconst 0, 1) := by decide +kernel
theorem dX8_begin_123 : decode cX8_begin 123 = .ok (.iaload, 1) := by decide +kernel
theorem dX8_begin_124 : decode cX8_begin 124 = .ok (.putfield 62, 3) := by decide +kernel
theorem dX8_begin_127 : decode cX8_begin 127 = .ok (.aload_n 0, 1) := by decide +kernel
theorem dX8_begin_128 : decode cX8_begin 128 = .ok (.iconst 0, 1) := by decide +kernel
theorem dX8_begin_129 : decode cX8_begin 129 = .ok (.putfield 65, 3) := by decide +kernel
theorem dX8_begin_132 : decode cX8_begin 132 = .ok (.aload_n 0, 1) := by decide +kernel
theorem dX8_begin_133 : decode cX8_begin 133 = .ok (.aload_n 1, 1) := by decide +kernel
theorem dX8_begin_134 : decode cX8_begin 134 = .ok (.getfield 59, 3) := by decide +kernel
theorem dX8_begin_137 : decode cX8_begin 137 = .ok (.iconst 4, 1) := by decide +kernel
theorem dX8_begin_138 : decode cX8_begin 138 = .ok (.iaload, 1) := by decide +kernel
theorem dX8_begin_139 : decode cX8_begin 139 = .ok (.putfield 68, 3) := by decide +kernel
theorem dX8_begin_142 : decode cX8_begin 142 = .ok (.aload_n 0, 1) := by decide +kernel
theorem dX8_begin_143 : decode cX8_begin 143 = .ok (.iconst 0, 1) := by decide +kernel
theorem dX8_begin_144 : decode cX8_begin 144 = .ok (.putfield 71, 3) := by decide +kernel
theorem dX8_begin_147 : decode cX8_begin 147 = .ok (.return_, 1) := by decide +kernel
theorem dX8_become_0 : decode cX8_become 0 = .ok (.aload_n 0, 1) := by decide +kernel
theorem dX8_become_1 : decode cX8_become 1 = .ok (.aload_n 1, 1) := by decide +kernel
theorem dX8_become_2 : decode cX8_become 2 = .ok (.getfield 40, 3) := by decide +kernel
theorem dX8_become_5 : decode cX8_become 5 = .ok (.putfield 40, 3) := by decide +kernel
theorem dX8_become_8 : decode cX8_become 8 = .ok (.aload_n 1, 1) := by decide +kernel
theorem dX8_become_9 : decode cX8_become 9 = .ok (.getfield 9, 3) := by decide +kernel
theorem dX8_become_12 : decode cX8_become 12 = .ok (.iconst 0, 1) := by decide +kernel
theorem dX8_become_13 : decode cX8_become 13 = .ok (.aload_n 0, 1) := by decide +kernel
theorem dX8_become_14 : decode cX8_become 14 = .ok (.getfield 9, 3) := by decide +kernel
theorem dX8_become_17 : decode cX8_become 17 = .ok (.iconst 0, 1) := by decide +kernel
theorem dX8_become_18 : decode cX8_become 18 = .ok (.bipush 6, 2) := by decide +kernel
theorem dX8_become_20 : decode cX8_become 20 = .ok (.invokestatic 74, 3) := by decide +kernel
theorem dX8_become_23 : decode cX8_become 23 = .ok (.aload_n 1, 1) := by decide +kernel
theorem dX8_become_24 : decode cX8_become 24 = .ok (.getfield 15, 3) := by decide +kernel
theorem dX8_become_27 : decode cX8_become 27 = .ok (.iconst 0, 1) := by decide +kernel
theorem dX8_become_28 : decode cX8_become 28 = .ok (.aload_n 0, 1) := by decide +kernel
theorem dX8_become_29 : decode cX8_become 29 = .ok (.getfield 15, 3) := by decide +kernel
theorem dX8_become_32 : decode cX8_become 32 = .ok (.iconst 0, 1) := by decide +kernel
theorem dX8_become_33 : decode cX8_become 33 = .ok (.bipush 6, 2) := by decide +kernel
theorem dX8_become_35 : decode cX8_become 35 = .ok (.invokestatic 74, 3) := by decide +kernel
theorem dX8_become_38 : decode cX8_become 38 = .ok (.aload_n 1, 1) := by decide +kernel
theorem dX8_become_39 : decode cX8_become 39 = .ok (.getfield 18, 3) := by decide +kernel
theorem dX8_become_42 : decode cX8_become 42 = .ok (.iconst 0, 1) := by decide +kernel
theorem dX8_become_43 : decode cX8_become 43 = .ok (.aload_n 0, 1) := by decide +kernel
theorem dX8_become_44 : decode cX8_become 44 = .ok (.getfield 18, 3) := by decide +kernel
theorem dX8_become_47 : decode cX8_become 47 = .ok (.iconst 0, 1) := by decide +kernel
theorem dX8_become_48 : decode cX8_become 48 = .ok (.bipush 6, 2) := by decide +kernel
theorem dX8_become_50 : decode cX8_become 50 = .ok (.invokestatic 74, 3) := by decide +kernel
theorem dX8_become_53 : decode cX8_become 53 = .ok (.aload_n 1, 1) := by decide +kernel
theorem dX8_become_54 : decode cX8_become 54 = .ok (.getfield 21, 3) := by decide +kernel
theorem dX8_become_57 : decode cX8_become 57 = .ok (.iconst 0, 1) := by decide +kernel
theorem dX8_become_58 : decode cX8_become 58 = .ok (.aload_n 0, 1) := by decide +kernel
theorem dX8_become_59 : decode cX8_become 59 = .ok (.getfield 21, 3) := by decide +kernel
theorem dX8_become_62 : decode cX8_become 62 = .ok (.iconst 0, 1) := by decide +kernel
theorem dX8_become_63 : decode cX8_become 63 = .ok (.bipush 6, 2) := by decide +kernel
theorem dX8_become_65 : decode cX8_become 65 = .ok (.invokestatic 74, 3) := by decide +kernel
theorem dX8_become_68 : decode cX8_become 68 = .ok (.aload_n 1, 1) := by decide +kernel
theorem dX8_become_69 : decode cX8_become 69 = .ok (.getfield 24, 3) := by decide +kernel
theorem dX8_become_72 : decode cX8_become 72 = .ok (.iconst 0, 1) := by decide +kernel
theorem dX8_become_73 : decode cX8_become 73 = .ok (.aload_n 0, 1) := by decide +kernel
theorem dX8_become_74 : decode cX8_become 74 = .ok (.getfield 24, 3) := by decide +kernel
theorem dX8_become_77 : decode cX8_become 77 = .ok (.iconst 0, 1) := by decide +kernel
theorem dX8_become_78 : decode cX8_become 78 = .ok (.bipush 6, 2) := by decide +kernel
theorem dX8_become_80 : decode cX8_become 80 = .ok (.invokestatic 74, 3) := by decide +kernel
theorem dX8_become_83 : decode cX8_become 83 = .ok (.aload_n 1, 1) := by decide +kernel
theorem dX8_become_84 : decode cX8_become 84 = .ok (.getfield 27, 3) := by decide +kernel
theorem dX8_become_87 : decode cX8_become 87 = .ok (.iconst 0, 1) := by decide +kernel
theorem dX8_become_88 : decode cX8_become 88 = .ok (.aload_n 0, 1) := by decide +kernel
theorem dX8_become_89 : decode cX8_become 89 = .ok (.getfield 27, 3) := by decide +kernel
theorem dX8_become_92 : decode cX8_become 92 = .ok (.iconst 0, 1) := by decide +kernel
theorem dX8_become_93 : decode cX8_become 93 = .ok (.bipush 6, 2) := by decide +kernel
theorem dX8_become_95 : decode cX8_become 95 = .ok (.invokestatic 74, 3) := by decide +kernel
theorem dX8_become_98 : decode cX8_become 98 = .ok (.iconst 0, 1) := by decide +kernel
theorem dX8_become_99 : decode cX8_become 99 = .ok (.istore_n 2, 1) := by decide +kernel
theorem dX8_become_100 : decode cX8_become 100 = .ok (.iload_n 2, 1) := by decide +kernel
theorem dX8_become_101 : decode cX8_become 101 = .ok (.bipush 6, 2) := by decide +kernel
theorem dX8_become_103 : decode cX8_become 103 = .ok (.if_icmp .ge 21, 3) := by decide +kernel
theorem dX8_become_106 : decode cX8_become 106 = .ok (.aload_n 0, 1) := by decide +kernel
theorem dX8_become_107 : decode cX8_become 107 = .ok (.getfield 30, 3) := by decide +kernel
theorem dX8_become_110 : decode cX8_become 110 = .ok (.iload_n 2, 1) := by decide +kernel
theorem dX8_become_111 : decode cX8_become 111 = .ok (.aload_n 1, 1) := by decide +kernel
theorem dX8_become_112 : decode cX8_become 112 = .ok (.getfield 30, 3) := by decide +kernel
theorem dX8_become_115 : decode cX8_become 115 = .ok (.iload_n 2, 1) := by decide +kernel
theorem dX8_become_116 : decode cX8_become 116 = .ok (.baload, 1) := by decide +kernel
theorem dX8_become_117 : decode cX8_become 117 = .ok (.bastore, 1) := by decide +kernel
theorem dX8_become_118 : decode cX8_become 118 = .ok (.iinc 2 1, 3) := by decide +kernel
theorem dX8_become_121 : decode cX8_become 121 = .ok (.goto (-21), 3) := by decide +kernel
theorem dX8_become_124 : decode cX8_become 124 = .ok (.aload_n 1, 1) := by decide +kernel
theorem dX8_become_125 : decode cX8_become 125 = .ok (.getfield 34, 3) := by decide +kernel
theorem dX8_become_128 : decode cX8_become 128 = .ok (.iconst 0, 1) := by decide +kernel
theorem dX8_become_129 : decode cX8_become 129 = .ok (.aload_n 0, 1) := by decide +kernel
theorem dX8_become_130 : decode cX8_become 130 = .ok (.getfield 34, 3) := by decide +kernel
theorem dX8_become_133 : decode cX8_become 133 = .ok (.iconst 0, 1) := by decide +kernel
theorem dX8_become_134 : decode cX8_become 134 = .ok (.bipush 8, 2) := by decide +kernel
theorem dX8_become_136 : decode cX8_become 136 = .ok (.invokestatic 74, 3) := by decide +kernel
theorem dX8_become_139 : decode cX8_become 139 = .ok (.aload_n 1, 1) := by decide +kernel
theorem dX8_become_140 : decode cX8_become 140 = .ok (.getfield 37, 3) := by decide +kernel
theorem dX8_become_143 : decode cX8_become 143 = .ok (.iconst 0, 1) := by decide +kernel
theorem dX8_become_144 : decode cX8_become 144 = .ok (.aload_n 0, 1) := by decide +kernel
theorem dX8_become_145 : decode cX8_become 145 = .ok (.getfield 37, 3) := by decide +kernel
theorem dX8_become_148 : decode cX8_become 148 = .ok (.iconst 0, 1) := by decide +kernel
theorem dX8_become_149 : decode cX8_become 149 = .ok (.bipush 8, 2) := by decide +kernel
theorem dX8_become_151 : decode cX8_become 151 = .ok (.invokestatic 74, 3) := by decide +kernel
theorem dX8_become_154 : decode cX8_become 154 = .ok (.aload_n 0, 1) := by decide +kernel
theorem dX8_become_155 : decode cX8_become 155 = .ok (.aload_n 1, 1) := by decide +kernel
theorem dX8_become_156 : decode cX8_become 156 = .ok (.getfield 52, 3) := by decide +kernel
theorem dX8_become_159 : decode cX8_become 159 = .ok (.putfield 52, 3) := by decide +kernel
theorem dX8_become_162 : decode cX8_become 162 = .ok (.aload_n 0, 1) := by decide +kernel
theorem dX8_become_163 : decode cX8_become 163 = .ok (.aload_n 1, 1) := by decide +kernel
theorem dX8_become_164 : decode cX8_become 164 = .ok (.getfield 56, 3) := by decide +kernel
theorem dX8_become_167 : decode cX8_become 167 = .ok (.putfield 56, 3) := by decide +kernel
theorem dX8_become_170 : decode cX8_become 170 = .ok (.aload_n 0, 1) := by decide +kernel
theorem dX8_become_171 : decode cX8_become 171 = .ok (.aload_n 1, 1) := by decide +kernel
theorem dX8_become_172 : decode cX8_become 172 = .ok (.getfield 62, 3) := by decide +kernel
theorem dX8_become_175 : decode cX8_become 175 = .ok (.putfield 62, 3) := by decide +kernel
theorem dX8_become_178 : decode cX8_become 178 = .ok (.aload_n 0, 1) := by decide +kernel
theorem dX8_become_179 : decode cX8_become 179 = .ok (.aload_n 1, 1) := by decide +kernel
theorem dX8_become_180 : decode cX8_become 180 = .ok (.getfield 65, 3) := by decide +kernel
theorem dX8_become_183 : decode cX8_become 183 = .ok (.putfield 65, 3) := by decide +kernel
theorem dX8_become_186 : decode cX8_become 186 = .ok (.aload_n 0, 1) := by decide +kernel
theorem dX8_become_187 : decode cX8_become 187 = .ok (.aload_n 1, 1) := by decide +kernel
theorem dX8_become_188 : decode cX8_become 188 = .ok (.getfield 68, 3) := by decide +kernel
theorem dX8_become_191 : decode cX8_become 191 = .ok (.putfield 68, 3) := by decide +kernel
theorem dX8_become_194 : decode cX8_become 194 = .ok (.aload_n 0, 1) := by decide +kernel
theorem dX8_become_195 : decode cX8_become 195 = .ok (.aload_n 1, 1) := by decide +kernel
theorem dX8_become_196 : decode cX8_become 196 = .ok (.getfield 71, 3) := by decide +kernel
theorem dX8_become_199 : decode cX8_become 199 = .ok (.putfield 71, 3) := by decide +kernel
theorem dX8_become_202 : decode cX8_become 202 = .ok (.return_, 1) := by decide +kernel
theorem dX8_thingsThatAre_0 : decode cX8_thingsThatAre 0 = .ok (.iconst 0, 1) := by decide +kernel
theorem dX8_thingsThatAre_1 : decode cX8_thingsThatAre 1 = .ok (.istore_n 2, 1) := by decide +kernel
theorem dX8_thingsThatAre_2 : decode cX8_thingsThatAre 2 = .ok (.iconst 0, 1) := by decide +kernel
theorem dX8_thingsThatAre_3 : decode cX8_thingsThatAre 3 = .ok (.istore_n 3, 1) := by decide +kernel
theorem dX8_thingsThatAre_4 : decode cX8_thingsThatAre 4 = .ok (.iload_n 3, 1) := by decide +kernel
theorem dX8_thingsThatAre_5 : decode cX8_thingsThatAre 5 = .ok (.aload_n 0, 1) := by decide +kernel
theorem dX8_thingsThatAre_6 : decode cX8_thingsThatAre 6 = .ok (.getfield 40, 3) := by decide +kernel
theorem dX8_thingsThatAre_9 : decode cX8_thingsThatAre 9 = .ok (.getfield 80, 3) := by decide +kernel
theorem dX8_thingsThatAre_12 : decode cX8_thingsThatAre 12 = .ok (.if_icmp .ge 28, 3) := by decide +kernel
theorem dX8_thingsThatAre_15 : decode cX8_thingsThatAre 15 = .ok (.iload_n 3, 1) := by decide +kernel
theorem dX8_thingsThatAre_16 : decode cX8_thingsThatAre 16 = .ok (.bipush 8, 2) := by decide +kernel
theorem dX8_thingsThatAre_18 : decode cX8_thingsThatAre 18 = .ok (.if_icmp .ge 22, 3) := by decide +kernel
theorem dX8_thingsThatAre_21 : decode cX8_thingsThatAre 21 = .ok (.aload_n 0, 1) := by decide +kernel
theorem dX8_thingsThatAre_22 : decode cX8_thingsThatAre 22 = .ok (.getfield 34, 3) := by decide +kernel
theorem dX8_thingsThatAre_25 : decode cX8_thingsThatAre 25 = .ok (.iload_n 3, 1) := by decide +kernel
theorem dX8_thingsThatAre_26 : decode cX8_thingsThatAre 26 = .ok (.iaload, 1) := by decide +kernel
theorem dX8_thingsThatAre_27 : decode cX8_thingsThatAre 27 = .ok (.iload_n 1, 1) := by decide +kernel
theorem dX8_thingsThatAre_28 : decode cX8_thingsThatAre 28 = .ok (.if_icmp .ne 6, 3) := by decide +kernel
theorem dX8_thingsThatAre_31 : decode cX8_thingsThatAre 31 = .ok (.iinc 2 1, 3) := by decide +kernel
theorem dX8_thingsThatAre_34 : decode cX8_thingsThatAre 34 = .ok (.iinc 3 1, 3) := by decide +kernel
theorem dX8_thingsThatAre_37 : decode cX8_thingsThatAre 37 = .ok (.goto (-33), 3) := by decide +kernel
theorem dX8_thingsThatAre_40 : decode cX8_thingsThatAre 40 = .ok (.iload_n 2, 1) := by decide +kernel
theorem dX8_thingsThatAre_41 : decode cX8_thingsThatAre 41 = .ok (.ireturn, 1) := by decide +kernel
theorem dX8_menThatAre_0 : decode cX8_menThatAre 0 = .ok (.iconst 0, 1) := by decide +kernel
theorem dX8_menThatAre_1 : decode cX8_menThatAre 1 = .ok (.istore_n 2, 1) := by decide +kernel
theorem dX8_menThatAre_2 : decode cX8_menThatAre 2 = .ok (.iconst 0, 1) := by decide +kernel
theorem dX8_menThatAre_3 : decode cX8_menThatAre 3 = .ok (.istore_n 3, 1) := by decide +kernel
theorem dX8_menThatAre_4 : decode cX8_menThatAre 4 = .ok (.iload_n 3, 1) := by decide +kernel
theorem dX8_menThatAre_5 : decode cX8_menThatAre 5 = .ok (.aload_n 0, 1) := by decide +kernel
theorem dX8_menThatAre_6 : decode cX8_menThatAre 6 = .ok (.getfield 40, 3) := by decide +kernel
theorem dX8_menThatAre_9 : decode cX8_menThatAre 9 = .ok (.getfield 83, 3) := by decide +kernel
theorem dX8_menThatAre_12 : decode cX8_menThatAre 12 = .ok (.if_icmp .ge 28, 3) := by decide +kernel
theorem dX8_menThatAre_15 : decode cX8_menThatAre 15 = .ok (.iload_n 3, 1) := by decide +kernel
theorem dX8_menThatAre_16 : decode cX8_menThatAre 16 = .ok (.bipush 6, 2) := by decide +kernel
theorem dX8_menThatAre_18 : decode cX8_menThatAre 18 = .ok (.if_icmp .ge 22, 3) := by decide +kernel
theorem dX8_menThatAre_21 : decode cX8_menThatAre 21 = .ok (.aload_n 0, 1) := by decide +kernel
theorem dX8_menThatAre_22 : decode cX8_menThatAre 22 = .ok (.getfield 21, 3) := by decide +kernel
theorem dX8_menThatAre_25 : decode cX8_menThatAre 25 = .ok (.iload_n 3, 1) := by decide +kernel
theorem dX8_menThatAre_26 : decode cX8_menThatAre 26 = .ok (.iaload, 1) := by decide +kernel
theorem dX8_menThatAre_27 : decode cX8_menThatAre 27 = .ok (.iload_n 1, 1) := by decide +kernel
theorem dX8_menThatAre_28 : decode cX8_menThatAre 28 = .ok (.if_icmp .ne 6, 3) := by decide +kernel
theorem dX8_menThatAre_31 : decode cX8_menThatAre 31 = .ok (.iinc 2 1, 3) := by decide +kernel
theorem dX8_menThatAre_34 : decode cX8_menThatAre 34 = .ok (.iinc 3 1, 3) := by decide +kernel
theorem dX8_menThatAre_37 : decode cX8_menThatAre 37 = .ok (.goto (-33), 3) := by decide +kernel
theorem dX8_menThatAre_40 : decode cX8_menThatAre 40 = .ok (.iload_n 2, 1) := by decide +kernel
theorem dX8_menThatAre_41 : decode cX8_menThatAre 41 = .ok (.ireturn, 1) := by decide +kernel
theorem dX8_savedWorth_0 : decode cX8_savedWorth 0 = .ok (.iconst 0, 1) := by decide +kernel
theorem dX8_savedWorth_1 : decode cX8_savedWorth 1 = .ok (.istore_n 1, 1) := by decide +kernel
theorem dX8_savedWorth_2 : decode cX8_savedWorth 2 = .ok (.iconst 0, 1) := by decide +kernel
theorem dX8_savedWorth_3 : decode cX8_savedWorth 3 = .ok (.istore_n 2, 1) := by decide +kernel
theorem dX8_savedWorth_4 : decode cX8_savedWorth 4 = .ok (.iload_n 2, 1) := by decide +kernel
theorem dX8_savedWorth_5 : decode cX8_savedWorth 5 = .ok (.aload_n 0, 1) := by decide +kernel
theorem dX8_savedWorth_6 : decode cX8_savedWorth 6 = .ok (.getfield 40, 3) := by decide +kernel
theorem dX8_savedWorth_9 : decode cX8_savedWorth 9 = .ok (.getfield 80, 3) := by decide +kernel
theorem dX8_savedWorth_12 : decode cX8_savedWorth 12 = .ok (.if_icmp .ge 37, 3) := by decide +kernel
theorem dX8_savedWorth_15 : decode cX8_savedWorth 15 = .ok (.iload_n 2, 1) := by decide +kernel
theorem dX8_savedWorth_16 : decode cX8_savedWorth 16 = .ok (.bipush 8, 2) := by decide +kernel
theorem dX8_savedWorth_18 : decode cX8_savedWorth 18 = .ok (.if_icmp .ge 31, 3) := by decide +kernel
theorem dX8_savedWorth_21 : decode cX8_savedWorth 21 = .ok (.aload_n 0, 1) := by decide +kernel
theorem dX8_savedWorth_22 : decode cX8_savedWorth 22 = .ok (.getfield 34, 3) := by decide +kernel
theorem dX8_savedWorth_25 : decode cX8_savedWorth 25 = .ok (.iload_n 2, 1) := by decide +kernel
theorem dX8_savedWorth_26 : decode cX8_savedWorth 26 = .ok (.iaload, 1) := by decide +kernel
theorem dX8_savedWorth_27 : decode cX8_savedWorth 27 = .ok (.iconst 2, 1) := by decide +kernel
theorem dX8_savedWorth_28 : decode cX8_savedWorth 28 = .ok (.if_icmp .ne 15, 3) := by decide +kernel
theorem dX8_savedWorth_31 : decode cX8_savedWorth 31 = .ok (.iload_n 1, 1) := by decide +kernel
theorem dX8_savedWorth_32 : decode cX8_savedWorth 32 = .ok (.aload_n 0, 1) := by decide +kernel
theorem dX8_savedWorth_33 : decode cX8_savedWorth 33 = .ok (.getfield 40, 3) := by decide +kernel
theorem dX8_savedWorth_36 : decode cX8_savedWorth 36 = .ok (.getfield 86, 3) := by decide +kernel
theorem dX8_savedWorth_39 : decode cX8_savedWorth 39 = .ok (.iload_n 2, 1) := by decide +kernel
theorem dX8_savedWorth_40 : decode cX8_savedWorth 40 = .ok (.iaload, 1) := by decide +kernel
theorem dX8_savedWorth_41 : decode cX8_savedWorth 41 = .ok (.iadd, 1) := by decide +kernel
theorem dX8_savedWorth_42 : decode cX8_savedWorth 42 = .ok (.istore_n 1, 1) := by decide +kernel
theorem dX8_savedWorth_43 : decode cX8_savedWorth 43 = .ok (.iinc 2 1, 3) := by decide +kernel
theorem dX8_savedWorth_46 : decode cX8_savedWorth 46 = .ok (.goto (-42), 3) := by decide +kernel
theorem dX8_savedWorth_49 : decode cX8_savedWorth 49 = .ok (.iload_n 1, 1) := by decide +kernel
theorem dX8_savedWorth_50 : decode cX8_savedWorth 50 = .ok (.ireturn, 1) := by decide +kernel
theorem dX8_placeOf_0 : decode cX8_placeOf 0 = .ok (.aload_n 0, 1) := by decide +kernel
theorem dX8_placeOf_1 : decode cX8_placeOf 1 = .ok (.getfield 9, 3) := by decide +kernel
theorem dX8_placeOf_4 : decode cX8_placeOf 4 = .ok (.aload_n 0, 1) := by decide +kernel
theorem dX8_placeOf_5 : decode cX8_placeOf 5 = .ok (.getfield 40, 3) := by decide +kernel
theorem dX8_placeOf_8 : decode cX8_placeOf 8 = .ok (.getfield 83, 3) := by decide +kernel
theorem dX8_placeOf_11 : decode cX8_placeOf 11 = .ok (.iload_n 1, 1) := by decide +kernel
theorem dX8_placeOf_12 : decode cX8_placeOf 12 = .ok (.invokestatic 89, 3) := by decide +kernel
theorem dX8_placeOf_15 : decode cX8_placeOf 15 = .ok (.ireturn, 1) := by decide +kernel
theorem dX8_changePlaces_0 : decode cX8_changePlaces 0 = .ok (.aload_n 0, 1) := by decide +kernel
theorem dX8_changePlaces_1 : decode cX8_changePlaces 1 = .ok (.iload_n 1, 1) := by decide +kernel
theorem dX8_changePlaces_2 : decode cX8_changePlaces 2 = .ok (.invokevirtual 93, 3) := by decide +kernel
theorem dX8_changePlaces_5 : decode cX8_changePlaces 5 = .ok (.istore_n 3, 1) := by decide +kernel
theorem dX8_changePlaces_6 : decode cX8_changePlaces 6 = .ok (.aload_n 0, 1) := by decide +kernel
theorem dX8_changePlaces_7 : decode cX8_changePlaces 7 = .ok (.iload_n 2, 1) := by decide +kernel
theorem dX8_changePlaces_8 : decode cX8_changePlaces 8 = .ok (.invokevirtual 93, 3) := by decide +kernel
theorem dX8_changePlaces_11 : decode cX8_changePlaces 11 = .ok (.istore 4, 2) := by decide +kernel
theorem dX8_changePlaces_13 : decode cX8_changePlaces 13 = .ok (.iload_n 3, 1) := by decide +kernel
theorem dX8_changePlaces_14 : decode cX8_changePlaces 14 = .ok (.ifCond .lt 23, 3) := by decide +kernel
theorem dX8_changePlaces_17 : decode cX8_changePlaces 17 = .ok (.iload 4, 2) := by decide +kernel
theorem dX8_changePlaces_19 : decode cX8_changePlaces 19 = .ok (.ifCond .lt 18, 3) := by decide +kernel
theorem dX8_changePlaces_22 : decode cX8_changePlaces 22 = .ok (.aload_n 0, 1) := by decide +kernel
theorem dX8_changePlaces_23 : decode cX8_changePlaces 23 = .ok (.getfield 9, 3) := by decide +kernel
theorem dX8_changePlaces_26 : decode cX8_changePlaces 26 = .ok (.iload_n 3, 1) := by decide +kernel
theorem dX8_changePlaces_27 : decode cX8_changePlaces 27 = .ok (.iload_n 2, 1) := by decide +kernel
theorem dX8_changePlaces_28 : decode cX8_changePlaces 28 = .ok (.iastore, 1) := by decide +kernel
theorem dX8_changePlaces_29 : decode cX8_changePlaces 29 = .ok (.aload_n 0, 1) := by decide +kernel
theorem dX8_changePlaces_30 : decode cX8_changePlaces 30 = .ok (.getfield 9, 3) := by decide +kernel
theorem dX8_changePlaces_33 : decode cX8_changePlaces 33 = .ok (.iload 4, 2) := by decide +kernel
theorem dX8_changePlaces_35 : decode cX8_changePlaces 35 = .ok (.iload_n 1, 1) := by decide +kernel
theorem dX8_changePlaces_36 : decode cX8_changePlaces 36 = .ok (.iastore, 1) := by decide +kernel
theorem dX8_changePlaces_37 : decode cX8_changePlaces 37 = .ok (.return_, 1) := by decide +kernel
theorem dX8_goerFor_0 : decode cX8_goerFor 0 = .ok (.aload_n 0, 1) := by decide +kernel
theorem dX8_goerFor_1 : decode cX8_goerFor 1 = .ok (.getfield 24, 3) := by decide +kernel
theorem dX8_goerFor_4 : decode cX8_goerFor 4 = .ok (.aload_n 0, 1) := by decide +kernel
theorem dX8_goerFor_5 : decode cX8_goerFor 5 = .ok (.getfield 40, 3) := by decide +kernel
theorem dX8_goerFor_8 : decode cX8_goerFor 8 = .ok (.getfield 83, 3) := by decide +kernel
theorem dX8_goerFor_11 : decode cX8_goerFor 11 = .ok (.iload_n 1, 1) := by decide +kernel
theorem dX8_goerFor_12 : decode cX8_goerFor 12 = .ok (.invokestatic 89, 3) := by decide +kernel
theorem dX8_goerFor_15 : decode cX8_goerFor 15 = .ok (.istore_n 2, 1) := by decide +kernel
theorem dX8_goerFor_16 : decode cX8_goerFor 16 = .ok (.iload_n 2, 1) := by decide +kernel
theorem dX8_goerFor_17 : decode cX8_goerFor 17 = .ok (.ifCond .ge 8, 3) := by decide +kernel
theorem dX8_goerFor_20 : decode cX8_goerFor 20 = .ok (.bipush (-2), 2) := by decide +kernel
theorem dX8_goerFor_22 : decode cX8_goerFor 22 = .ok (.goto 4, 3) := by decide +kernel
theorem dX8_goerFor_25 : decode cX8_goerFor 25 = .ok (.iload_n 2, 1) := by decide +kernel
theorem dX8_goerFor_26 : decode cX8_goerFor 26 = .ok (.ireturn, 1) := by decide +kernel
theorem dX8_freeThing_0 : decode cX8_freeThing 0 = .ok (.iconst 0, 1) := by decide +kernel
theorem dX8_freeThing_1 : decode cX8_freeThing 1 = .ok (.istore_n 1, 1) := by decide +kernel
theorem dX8_freeThing_2 : decode cX8_freeThing 2 = .ok (.iload_n 1, 1) := by decide +kernel
theorem dX8_freeThing_3 : decode cX8_freeThing 3 = .ok (.aload_n 0, 1) := by decide +kernel
theorem dX8_freeThing_4 : decode cX8_freeThing 4 = .ok (.getfield 40, 3) := by decide +kernel
theorem dX8_freeThing_7 : decode cX8_freeThing 7 = .ok (.getfield 80, 3) := by decide +kernel
theorem dX8_freeThing_10 : decode cX8_freeThing 10 = .ok (.if_icmp .ge 34, 3) := by decide +kernel
theorem dX8_freeThing_13 : decode cX8_freeThing 13 = .ok (.iload_n 1, 1) := by decide +kernel
theorem dX8_freeThing_14 : decode cX8_freeThing 14 = .ok (.bipush 8, 2) := by decide +kernel
theorem dX8_freeThing_16 : decode cX8_freeThing 16 = .ok (.if_icmp .ge 28, 3) := by decide +kernel
theorem dX8_freeThing_19 : decode cX8_freeThing 19 = .ok (.aload_n 0, 1) := by decide +kernel
theorem dX8_freeThing_20 : decode cX8_freeThing 20 = .ok (.getfield 34, 3) := by decide +kernel
theorem dX8_freeThing_23 : decode cX8_freeThing 23 = .ok (.iload_n 1, 1) := by decide +kernel
theorem dX8_freeThing_24 : decode cX8_freeThing 24 = .ok (.iaload, 1) := by decide +kernel
theorem dX8_freeThing_25 : decode cX8_freeThing 25 = .ok (.ifCond .ne 13, 3) := by decide +kernel
theorem dX8_freeThing_28 : decode cX8_freeThing 28 = .ok (.aload_n 0, 1) := by decide +kernel
theorem dX8_freeThing_29 : decode cX8_freeThing 29 = .ok (.iload_n 1, 1) := by decide +kernel
theorem dX8_freeThing_30 : decode cX8_freeThing 30 = .ok (.invokevirtual 97, 3) := by decide +kernel
theorem dX8_freeThing_33 : decode cX8_freeThing 33 = .ok (.ifCond .ge 5, 3) := by decide +kernel
theorem dX8_freeThing_36 : decode cX8_freeThing 36 = .ok (.iload_n 1, 1) := by decide +kernel
theorem dX8_freeThing_37 : decode cX8_freeThing 37 = .ok (.ireturn, 1) := by decide +kernel
theorem dX8_freeThing_38 : decode cX8_freeThing 38 = .ok (.iinc 1 1, 3) := by decide +kernel
theorem dX8_freeThing_41 : decode cX8_freeThing 41 = .ok (.goto (-39), 3) := by decide +kernel
theorem dX8_freeThing_44 : decode cX8_freeThing 44 = .ok (.bipush (-2), 2) := by decide +kernel
theorem dX8_freeThing_46 : decode cX8_freeThing 46 = .ok (.ireturn, 1) := by decide +kernel
theorem dX8_setFacts_0 : decode cX8_setFacts 0 = .ok (.iload_n 1, 1) := by decide +kernel
theorem dX8_setFacts_1 : decode cX8_setFacts 1 = .ok (.ifCond .lt 9, 3) := by decide +kernel
theorem dX8_setFacts_4 : decode cX8_setFacts 4 = .ok (.iload_n 1, 1) := by decide +kernel
theorem dX8_setFacts_5 : decode cX8_setFacts 5 = .ok (.bipush 6, 2) := by decide +kernel
theorem dX8_setFacts_7 : decode cX8_setFacts 7 = .ok (.if_icmp .lt 4, 3) := by decide +kernel
theorem dX8_setFacts_10 : decode cX8_setFacts 10 = .ok (.return_, 1) := by decide +kernel
theorem dX8_setFacts_11 : decode cX8_setFacts 11 = .ok (.aload_n 0, 1) := by decide +kernel
theorem dX8_setFacts_12 : decode cX8_setFacts 12 = .ok (.getfield 40, 3) := by decide +kernel
theorem dX8_setFacts_15 : decode cX8_setFacts 15 = .ok (.getfield 100, 3) := by decide +kernel
theorem dX8_setFacts_18 : decode cX8_setFacts 18 = .ok (.getfield 104, 3) := by decide +kernel
theorem dX8_setFacts_21 : decode cX8_setFacts 21 = .ok (.astore 4, 2) := by decide +kernel
theorem dX8_setFacts_23 : decode cX8_setFacts 23 = .ok (.aload 4, 2) := by decide +kernel
theorem dX8_setFacts_25 : decode cX8_setFacts 25 = .ok (.iconst 0, 1) := by decide +kernel
theorem dX8_setFacts_26 : decode cX8_setFacts 26 = .ok (.aload_n 0, 1) := by decide +kernel
theorem dX8_setFacts_27 : decode cX8_setFacts 27 = .ok (.getfield 40, 3) := by decide +kernel
theorem dX8_setFacts_30 : decode cX8_setFacts 30 = .ok (.getfield 110, 3) := by decide +kernel
theorem dX8_setFacts_33 : decode cX8_setFacts 33 = .ok (.iload_n 1, 1) := by decide +kernel
theorem dX8_setFacts_34 : decode cX8_setFacts 34 = .ok (.iaload, 1) := by decide +kernel
theorem dX8_setFacts_35 : decode cX8_setFacts 35 = .ok (.i2l, 1) := by decide +kernel
theorem dX8_setFacts_36 : decode cX8_setFacts 36 = .ok (.lastore, 1) := by decide +kernel
theorem dX8_setFacts_37 : decode cX8_setFacts 37 = .ok (.aload 4, 2) := by decide +kernel
theorem dX8_setFacts_39 : decode cX8_setFacts 39 = .ok (.iconst 1, 1) := by decide +kernel
theorem dX8_setFacts_40 : decode cX8_setFacts 40 = .ok (.aload_n 0, 1) := by decide +kernel
theorem dX8_setFacts_41 : decode cX8_setFacts 41 = .ok (.getfield 15, 3) := by decide +kernel
theorem dX8_setFacts_44 : decode cX8_setFacts 44 = .ok (.iload_n 1, 1) := by decide +kernel
theorem dX8_setFacts_45 : decode cX8_setFacts 45 = .ok (.iaload, 1) := by decide +kernel
theorem dX8_setFacts_46 : decode cX8_setFacts 46 = .ok (.i2l, 1) := by decide +kernel
theorem dX8_setFacts_47 : decode cX8_setFacts 47 = .ok (.lastore, 1) := by decide +kernel
theorem dX8_setFacts_48 : decode cX8_setFacts 48 = .ok (.aload 4, 2) := by decide +kernel
theorem dX8_setFacts_50 : decode cX8_setFacts 50 = .ok (.iconst 2, 1) := by decide +kernel
theorem dX8_setFacts_51 : decode cX8_setFacts 51 = .ok (.aload_n 0, 1) := by decide +kernel
theorem dX8_setFacts_52 : decode cX8_setFacts 52 = .ok (.getfield 40, 3) := by decide +kernel
theorem dX8_setFacts_55 : decode cX8_setFacts 55 = .ok (.getfield 113, 3) := by decide +kernel
theorem dX8_setFacts_58 : decode cX8_setFacts 58 = .ok (.iload_n 1, 1) := by decide +kernel
theorem dX8_setFacts_59 : decode cX8_setFacts 59 = .ok (.iaload, 1) := by decide +kernel
theorem dX8_setFacts_60 : decode cX8_setFacts 60 = .ok (.i2l, 1) := by decide +kernel
theorem dX8_setFacts_61 : decode cX8_setFacts 61 = .ok (.lastore, 1) := by decide +kernel
theorem dX8_setFacts_62 : decode cX8_setFacts 62 = .ok (.aload 4, 2) := by decide +kernel
theorem dX8_setFacts_64 : decode cX8_setFacts 64 = .ok (.iconst 3, 1) := by decide +kernel
theorem dX8_setFacts_65 : decode cX8_setFacts 65 = .ok (.aload_n 0, 1) := by decide +kernel
theorem dX8_setFacts_66 : decode cX8_setFacts 66 = .ok (.getfield 18, 3) := by decide +kernel
theorem dX8_setFacts_69 : decode cX8_setFacts 69 = .ok (.iload_n 1, 1) := by decide +kernel
theorem dX8_setFacts_70 : decode cX8_setFacts 70 = .ok (.iaload, 1) := by decide +kernel
theorem dX8_setFacts_71 : decode cX8_setFacts 71 = .ok (.iload_n 3, 1) := by decide +kernel
theorem dX8_setFacts_72 : decode cX8_setFacts 72 = .ok (.iadd, 1) := by decide +kernel
theorem dX8_setFacts_73 : decode cX8_setFacts 73 = .ok (.i2l, 1) := by decide +kernel
theorem dX8_setFacts_74 : decode cX8_setFacts 74 = .ok (.lastore, 1) := by decide +kernel
theorem dX8_setFacts_75 : decode cX8_setFacts 75 = .ok (.aload 4, 2) := by decide +kernel
theorem dX8_setFacts_77 : decode cX8_setFacts 77 = .ok (.iconst 4, 1) := by decide +kernel
theorem dX8_setFacts_78 : decode cX8_setFacts 78 = .ok (.aload_n 0, 1) := by decide +kernel
theorem dX8_setFacts_79 : decode cX8_setFacts 79 = .ok (.getfield 56, 3) := by decide +kernel
theorem dX8_setFacts_82 : decode cX8_setFacts 82 = .ok (.i2l, 1) := by decide +kernel
theorem dX8_setFacts_83 : decode cX8_setFacts 83 = .ok (.lastore, 1) := by decide +kernel
theorem dX8_setFacts_84 : decode cX8_setFacts 84 = .ok (.aload 4, 2) := by decide +kernel
theorem dX8_setFacts_86 : decode cX8_setFacts 86 = .ok (.iconst 5, 1) := by decide +kernel
theorem dX8_setFacts_87 : decode cX8_setFacts 87 = .ok (.iload_n 2, 1) := by decide +kernel
theorem dX8_setFacts_88 : decode cX8_setFacts 88 = .ok (.ifCond .lt 22, 3) := by decide +kernel
theorem dX8_setFacts_91 : decode cX8_setFacts 91 = .ok (.iload_n 2, 1) := by decide +kernel
theorem dX8_setFacts_92 : decode cX8_setFacts 92 = .ok (.bipush 8, 2) := by decide +kernel
theorem dX8_setFacts_94 : decode cX8_setFacts 94 = .ok (.if_icmp .ge 16, 3) := by decide +kernel
theorem dX8_setFacts_97 : decode cX8_setFacts 97 = .ok (.aload_n 0, 1) := by decide +kernel
theorem dX8_setFacts_98 : decode cX8_setFacts 98 = .ok (.getfield 40, 3) := by decide +kernel
theorem dX8_setFacts_101 : decode cX8_setFacts 101 = .ok (.getfield 116, 3) := by decide +kernel
theorem dX8_setFacts_104 : decode cX8_setFacts 104 = .ok (.iload_n 2, 1) := by decide +kernel
theorem dX8_setFacts_105 : decode cX8_setFacts 105 = .ok (.iaload, 1) := by decide +kernel
theorem dX8_setFacts_106 : decode cX8_setFacts 106 = .ok (.i2l, 1) := by decide +kernel
theorem dX8_setFacts_107 : decode cX8_setFacts 107 = .ok (.goto 4, 3) := by decide +kernel
theorem dX8_setFacts_110 : decode cX8_setFacts 110 = .ok (.lconst 0, 1) := by decide +kernel
theorem dX8_setFacts_111 : decode cX8_setFacts 111 = .ok (.lastore, 1) := by decide +kernel
theorem dX8_setFacts_112 : decode cX8_setFacts 112 = .ok (.aload 4, 2) := by decide +kernel
theorem dX8_setFacts_114 : decode cX8_setFacts 114 = .ok (.bipush 6, 2) := by decide +kernel
theorem dX8_setFacts_116 : decode cX8_setFacts 116 = .ok (.aload_n 0, 1) := by decide +kernel
theorem dX8_setFacts_117 : decode cX8_setFacts 117 = .ok (.getfield 52, 3) := by decide +kernel
theorem dX8_setFacts_120 : decode cX8_setFacts 120 = .ok (.i2l, 1) := by decide +kernel
theorem dX8_setFacts_121 : decode cX8_setFacts 121 = .ok (.lastore, 1) := by decide +kernel
theorem dX8_setFacts_122 : decode cX8_setFacts 122 = .ok (.return_, 1) := by decide +kernel
theorem dX8_dares_0 : decode cX8_dares 0 = .ok (.iload_n 1, 1) := by decide +kernel
theorem dX8_dares_1 : decode cX8_dares 1 = .ok (.ifCond .lt 9, 3) := by decide +kernel
theorem dX8_dares_4 : decode cX8_dares 4 = .ok (.iload_n 1, 1) := by decide +kernel
theorem dX8_dares_5 : decode cX8_dares 5 = .ok (.bipush 6, 2) := by decide +kernel
theorem dX8_dares_7 : decode cX8_dares 7 = .ok (.if_icmp .lt 5, 3) := by decide +kernel
theorem dX8_dares_10 : decode cX8_dares 10 = .ok (.iconst 0, 1) := by decide +kernel
theorem dX8_dares_11 : decode cX8_dares 11 = .ok (.ireturn, 1) := by decide +kernel
theorem dX8_dares_12 : decode cX8_dares 12 = .ok (.aload_n 0, 1) := by decide +kernel
theorem dX8_dares_13 : decode cX8_dares 13 = .ok (.iload_n 1, 1) := by decide +kernel
theorem dX8_dares_14 : decode cX8_dares 14 = .ok (.iload_n 2, 1) := by decide +kernel
theorem dX8_dares_15 : decode cX8_dares 15 = .ok (.iload_n 3, 1) := by decide +kernel
theorem dX8_dares_16 : decode cX8_dares 16 = .ok (.invokevirtual 119, 3) := by decide +kernel
theorem dX8_dares_19 : decode cX8_dares 19 = .ok (.aload_n 0, 1) := by decide +kernel
theorem dX8_dares_20 : decode cX8_dares 20 = .ok (.getfield 40, 3) := by decide +kernel
theorem dX8_dares_23 : decode cX8_dares 23 = .ok (.getfield 100, 3) := by decide +kernel
theorem dX8_dares_26 : decode cX8_dares 26 = .ok (.iconst 0, 1) := by decide +kernel
theorem dX8_dares_27 : decode cX8_dares 27 = .ok (.invokevirtual 123, 3) := by decide +kernel
theorem dX8_dares_30 : decode cX8_dares 30 = .ok (.lstore 4, 2) := by decide +kernel
theorem dX8_dares_32 : decode cX8_dares 32 = .ok (.lload 4, 2) := by decide +kernel
theorem dX8_dares_34 : decode cX8_dares 34 = .ok (.ldc2_w 127, 3) := by decide +kernel
theorem dX8_dares_37 : decode cX8_dares 37 = .ok (.lcmp, 1) := by decide +kernel
theorem dX8_dares_38 : decode cX8_dares 38 = .ok (.ifCond .ne 41, 3) := by decide +kernel
theorem dX8_dares_41 : decode cX8_dares 41 = .ok (.aload_n 0, 1) := by decide +kernel
theorem dX8_dares_42 : decode cX8_dares 42 = .ok (.getfield 15, 3) := by decide +kernel
theorem dX8_dares_45 : decode cX8_dares 45 = .ok (.iload_n 1, 1) := by decide +kernel
theorem dX8_dares_46 : decode cX8_dares 46 = .ok (.iaload, 1) := by decide +kernel
theorem dX8_dares_47 : decode cX8_dares 47 = .ok (.aload_n 0, 1) := by decide +kernel
theorem dX8_dares_48 : decode cX8_dares 48 = .ok (.getfield 18, 3) := by decide +kernel
theorem dX8_dares_51 : decode cX8_dares 51 = .ok (.iload_n 1, 1) := by decide +kernel
theorem dX8_dares_52 : decode cX8_dares 52 = .ok (.iaload, 1) := by decide +kernel
theorem dX8_dares_53 : decode cX8_dares 53 = .ok (.iadd, 1) := by decide +kernel
theorem dX8_dares_54 : decode cX8_dares 54 = .ok (.iload_n 3, 1) := by decide +kernel
theorem dX8_dares_55 : decode cX8_dares 55 = .ok (.iadd, 1) := by decide +kernel
theorem dX8_dares_56 : decode cX8_dares 56 = .ok (.aload_n 0, 1) := by decide +kernel
theorem dX8_dares_57 : decode cX8_dares 57 = .ok (.getfield 40, 3) := by decide +kernel
theorem dX8_dares_60 : decode cX8_dares 60 = .ok (.getfield 110, 3) := by decide +kernel
theorem dX8_dares_63 : decode cX8_dares 63 = .ok (.iload_n 1, 1) := by decide +kernel
theorem dX8_dares_64 : decode cX8_dares 64 = .ok (.iaload, 1) := by decide +kernel
theorem dX8_dares_65 : decode cX8_dares 65 = .ok (.aload_n 0, 1) := by decide +kernel
theorem dX8_dares_66 : decode cX8_dares 66 = .ok (.getfield 56, 3) := by decide +kernel
theorem dX8_dares_69 : decode cX8_dares 69 = .ok (.iadd, 1) := by decide +kernel
theorem dX8_dares_70 : decode cX8_dares 70 = .ok (.if_icmp .lt 7, 3) := by decide +kernel
theorem dX8_dares_73 : decode cX8_dares 73 = .ok (.iconst 1, 1) := by decide +kernel
theorem dX8_dares_74 : decode cX8_dares 74 = .ok (.goto 4, 3) := by decide +kernel
theorem dX8_dares_77 : decode cX8_dares 77 = .ok (.iconst 0, 1) := by decide +kernel
theorem dX8_dares_78 : decode cX8_dares 78 = .ok (.ireturn, 1) := by decide +kernel
theorem dX8_dares_79 : decode cX8_dares 79 = .ok (.lload 4, 2) := by decide +kernel
theorem dX8_dares_81 : decode cX8_dares 81 = .ok (.lconst 0, 1) := by decide +kernel
theorem dX8_dares_82 : decode cX8_dares 82 = .ok (.lcmp, 1) := by decide +kernel
theorem dX8_dares_83 : decode cX8_dares 83 = .ok (.ifCond .eq 7, 3) := by decide +kernel
theorem dX8_dares_86 : decode cX8_dares 86 = .ok (.iconst 1, 1) := by decide +kernel
theorem dX8_dares_87 : decode cX8_dares 87 = .ok (.goto 4, 3) := by decide +kernel
theorem dX8_dares_90 : decode cX8_dares 90 = .ok (.iconst 0, 1) := by decide +kernel
theorem dX8_dares_91 : decode cX8_dares 91 = .ok (.ireturn, 1) := by decide +kernel
theorem dX8_pass_0 : decode cX8_pass 0 = .ok (.aload_n 0, 1) := by decide +kernel
theorem dX8_pass_1 : decode cX8_pass 1 = .ok (.iconst 0, 1) := by decide +kernel
theorem dX8_pass_2 : decode cX8_pass 2 = .ok (.putfield 71, 3) := by decide +kernel
theorem dX8_pass_5 : decode cX8_pass 5 = .ok (.iload_n 1, 1) := by decide +kernel
theorem dX8_pass_6 : decode cX8_pass 6 = .ok (.bipush 16, 2) := by decide +kernel
theorem dX8_pass_8 : decode cX8_pass 8 = .ok (.iand, 1) := by decide +kernel
theorem dX8_pass_9 : decode cX8_pass 9 = .ok (.ifCond .ne 7, 3) := by decide +kernel
theorem dX8_pass_12 : decode cX8_pass 12 = .ok (.aload_n 0, 1) := by decide +kernel
theorem dX8_pass_13 : decode cX8_pass 13 = .ok (.invokevirtual 129, 3) := by decide +kernel
theorem dX8_pass_16 : decode cX8_pass 16 = .ok (.iconst 0, 1) := by decide +kernel
theorem dX8_pass_17 : decode cX8_pass 17 = .ok (.istore_n 2, 1) := by decide +kernel
theorem dX8_pass_18 : decode cX8_pass 18 = .ok (.iload_n 2, 1) := by decide +kernel
theorem dX8_pass_19 : decode cX8_pass 19 = .ok (.aload_n 0, 1) := by decide +kernel
theorem dX8_pass_20 : decode cX8_pass 20 = .ok (.getfield 40, 3) := by decide +kernel
theorem dX8_pass_23 : decode cX8_pass 23 = .ok (.getfield 83, 3) := by decide +kernel
theorem dX8_pass_26 : decode cX8_pass 26 = .ok (.if_icmp .ge 25, 3) := by decide +kernel
theorem dX8_pass_29 : decode cX8_pass 29 = .ok (.iload_n 2, 1) := by decide +kernel
theorem dX8_pass_30 : decode cX8_pass 30 = .ok (.bipush 6, 2) := by decide +kernel
theorem dX8_pass_32 : decode cX8_pass 32 = .ok (.if_icmp .ge 19, 3) := by decide +kernel
theorem dX8_pass_35 : decode cX8_pass 35 = .ok (.aload_n 0, 1) := by decide +kernel
theorem dX8_pass_36 : decode cX8_pass 36 = .ok (.aload_n 0, 1) := by decide +kernel
theorem dX8_pass_37 : decode cX8_pass 37 = .ok (.getfield 9, 3) := by decide +kernel
theorem dX8_pass_40 : decode cX8_pass 40 = .ok (.iload_n 2, 1) := by decide +kernel
theorem dX8_pass_41 : decode cX8_pass 41 = .ok (.iaload, 1) := by decide +kernel
theorem dX8_pass_42 : decode cX8_pass 42 = .ok (.invokevirtual 132, 3) := by decide +kernel
theorem dX8_pass_45 : decode cX8_pass 45 = .ok (.iinc 2 1, 3) := by decide +kernel
theorem dX8_pass_48 : decode cX8_pass 48 = .ok (.goto (-30), 3) := by decide +kernel
theorem dX8_pass_51 : decode cX8_pass 51 = .ok (.iconst 0, 1) := by decide +kernel
theorem dX8_pass_52 : decode cX8_pass 52 = .ok (.istore_n 2, 1) := by decide +kernel
theorem dX8_pass_53 : decode cX8_pass 53 = .ok (.iload_n 2, 1) := by decide +kernel
theorem dX8_pass_54 : decode cX8_pass 54 = .ok (.aload_n 0, 1) := by decide +kernel
theorem dX8_pass_55 : decode cX8_pass 55 = .ok (.getfield 40, 3) := by decide +kernel
theorem dX8_pass_58 : decode cX8_pass 58 = .ok (.getfield 83, 3) := by decide +kernel
theorem dX8_pass_61 : decode cX8_pass 61 = .ok (.if_icmp .ge 26, 3) := by decide +kernel
theorem dX8_pass_64 : decode cX8_pass 64 = .ok (.iload_n 2, 1) := by decide +kernel
theorem dX8_pass_65 : decode cX8_pass 65 = .ok (.bipush 6, 2) := by decide +kernel
theorem dX8_pass_67 : decode cX8_pass 67 = .ok (.if_icmp .ge 20, 3) := by decide +kernel
theorem dX8_pass_70 : decode cX8_pass 70 = .ok (.aload_n 0, 1) := by decide +kernel
theorem dX8_pass_71 : decode cX8_pass 71 = .ok (.aload_n 0, 1) := by decide +kernel
theorem dX8_pass_72 : decode cX8_pass 72 = .ok (.getfield 9, 3) := by decide +kernel
theorem dX8_pass_75 : decode cX8_pass 75 = .ok (.iload_n 2, 1) := by decide +kernel
theorem dX8_pass_76 : decode cX8_pass 76 = .ok (.iaload, 1) := by decide +kernel
theorem dX8_pass_77 : decode cX8_pass 77 = .ok (.iload_n 1, 1) := by decide +kernel
theorem dX8_pass_78 : decode cX8_pass 78 = .ok (.invokevirtual 136, 3) := by decide +kernel
theorem dX8_pass_81 : decode cX8_pass 81 = .ok (.iinc 2 1, 3) := by decide +kernel
theorem dX8_pass_84 : decode cX8_pass 84 = .ok (.goto (-31), 3) := by decide +kernel
theorem dX8_pass_87 : decode cX8_pass 87 = .ok (.iload_n 1, 1) := by decide +kernel
theorem dX8_pass_88 : decode cX8_pass 88 = .ok (.bipush 8, 2) := by decide +kernel
theorem dX8_pass_90 : decode cX8_pass 90 = .ok (.iand, 1) := by decide +kernel
theorem dX8_pass_91 : decode cX8_pass 91 = .ok (.ifCond .ne 7, 3) := by decide +kernel
theorem dX8_pass_94 : decode cX8_pass 94 = .ok (.aload_n 0, 1) := by decide +kernel
theorem dX8_pass_95 : decode cX8_pass 95 = .ok (.invokevirtual 140, 3) := by decide +kernel
theorem dX8_pass_98 : decode cX8_pass 98 = .ok (.aload_n 0, 1) := by decide +kernel
theorem dX8_pass_99 : decode cX8_pass 99 = .ok (.iload_n 1, 1) := by decide +kernel
theorem dX8_pass_100 : decode cX8_pass 100 = .ok (.invokevirtual 143, 3) := by decide +kernel
theorem dX8_pass_103 : decode cX8_pass 103 = .ok (.aload_n 0, 1) := by decide +kernel
theorem dX8_pass_104 : decode cX8_pass 104 = .ok (.dup, 1) := by decide +kernel
theorem dX8_pass_105 : decode cX8_pass 105 = .ok (.getfield 52, 3) := by decide +kernel
theorem dX8_pass_108 : decode cX8_pass 108 = .ok (.iconst 1, 1) := by decide +kernel
theorem dX8_pass_109 : decode cX8_pass 109 = .ok (.iadd, 1) := by decide +kernel
theorem dX8_pass_110 : decode cX8_pass 110 = .ok (.putfield 52, 3) := by decide +kernel
theorem dX8_pass_113 : decode cX8_pass 113 = .ok (.return_, 1) := by decide +kernel
theorem dX8_payLooks_0 : decode cX8_payLooks 0 = .ok (.iconst 0, 1) := by decide +kernel
theorem dX8_payLooks_1 : decode cX8_payLooks 1 = .ok (.istore_n 1, 1) := by decide +kernel
theorem dX8_payLooks_2 : decode cX8_payLooks 2 = .ok (.iload_n 1, 1) := by decide +kernel
theorem dX8_payLooks_3 : decode cX8_payLooks 3 = .ok (.aload_n 0, 1) := by decide +kernel
theorem dX8_payLooks_4 : decode cX8_payLooks 4 = .ok (.getfield 40, 3) := by decide +kernel
theorem dX8_payLooks_7 : decode cX8_payLooks 7 = .ok (.getfield 146, 3) := by decide +kernel
theorem dX8_payLooks_10 : decode cX8_payLooks 10 = .ok (.if_icmp .ge 53, 3) := by decide +kernel
theorem dX8_payLooks_13 : decode cX8_payLooks 13 = .ok (.iload_n 1, 1) := by decide +kernel
theorem dX8_payLooks_14 : decode cX8_payLooks 14 = .ok (.bipush 10, 2) := by decide +kernel
theorem dX8_payLooks_16 : decode cX8_payLooks 16 = .ok (.if_icmp .ge 47, 3) := by decide +kernel
theorem dX8_payLooks_19 : decode cX8_payLooks 19 = .ok (.aload_n 0, 1) := by decide +kernel
theorem dX8_payLooks_20 : decode cX8_payLooks 20 = .ok (.getfield 40, 3) := by decide +kernel
theorem dX8_payLooks_23 : decode cX8_payLooks 23 = .ok (.getfield 148, 3) := by decide +kernel
theorem dX8_payLooks_26 : decode cX8_payLooks 26 = .ok (.iload_n 1, 1) := by decide +kernel
theorem dX8_payLooks_27 : decode cX8_payLooks 27 = .ok (.iaload, 1) := by decide +kernel
theorem dX8_payLooks_28 : decode cX8_payLooks 28 = .ok (.aload_n 0, 1) := by decide +kernel
theorem dX8_payLooks_29 : decode cX8_payLooks 29 = .ok (.getfield 52, 3) := by decide +kernel
theorem dX8_payLooks_32 : decode cX8_payLooks 32 = .ok (.if_icmp .ne 25, 3) := by decide +kernel
theorem dX8_payLooks_35 : decode cX8_payLooks 35 = .ok (.aload_n 0, 1) := by decide +kernel
theorem dX8_payLooks_36 : decode cX8_payLooks 36 = .ok (.aload_n 0, 1) := by decide +kernel
theorem dX8_payLooks_37 : decode cX8_payLooks 37 = .ok (.getfield 40, 3) := by decide +kernel
theorem dX8_payLooks_40 : decode cX8_payLooks 40 = .ok (.getfield 151, 3) := by decide +kernel
theorem dX8_payLooks_43 : decode cX8_payLooks 43 = .ok (.iload_n 1, 1) := by decide +kernel
theorem dX8_payLooks_44 : decode cX8_payLooks 44 = .ok (.iaload, 1) := by decide +kernel
theorem dX8_payLooks_45 : decode cX8_payLooks 45 = .ok (.aload_n 0, 1) := by decide +kernel
theorem dX8_payLooks_46 : decode cX8_payLooks 46 = .ok (.getfield 40, 3) := by decide +kernel
theorem dX8_payLooks_49 : decode cX8_payLooks 49 = .ok (.getfield 154, 3) := by decide +kernel
theorem dX8_payLooks_52 : decode cX8_payLooks 52 = .ok (.iload_n 1, 1) := by decide +kernel
theorem dX8_payLooks_53 : decode cX8_payLooks 53 = .ok (.iaload, 1) := by decide +kernel
theorem dX8_payLooks_54 : decode cX8_payLooks 54 = .ok (.invokevirtual 157, 3) := by decide +kernel
theorem dX8_payLooks_57 : decode cX8_payLooks 57 = .ok (.iinc 1 1, 3) := by decide +kernel
theorem dX8_payLooks_60 : decode cX8_payLooks 60 = .ok (.goto (-58), 3) := by decide +kernel
theorem dX8_payLooks_63 : decode cX8_payLooks 63 = .ok (.return_, 1) := by decide +kernel
theorem dX8_payLook_0 : decode cX8_payLook 0 = .ok (.aload_n 0, 1) := by decide +kernel
theorem dX8_payLook_1 : decode cX8_payLook 1 = .ok (.getfield 62, 3) := by decide +kernel
theorem dX8_payLook_4 : decode cX8_payLook 4 = .ok (.iload_n 2, 1) := by decide +kernel
theorem dX8_payLook_5 : decode cX8_payLook 5 = .ok (.if_icmp .ge 16, 3) := by decide +kernel
theorem dX8_payLook_8 : decode cX8_payLook 8 = .ok (.aload_n 0, 1) := by decide +kernel
theorem dX8_payLook_9 : decode cX8_payLook 9 = .ok (.dup, 1) := by decide +kernel
theorem dX8_payLook_10 : decode cX8_payLook 10 = .ok (.getfield 65, 3) := by decide +kernel
theorem dX8_payLook_13 : decode cX8_payLook 13 = .ok (.iconst 1, 1) := by decide +kernel
theorem dX8_payLook_14 : decode cX8_payLook 14 = .ok (.iadd, 1) := by decide +kernel
theorem dX8_payLook_15 : decode cX8_payLook 15 = .ok (.putfield 65, 3) := by decide +kernel
theorem dX8_payLook_18 : decode cX8_payLook 18 = .ok (.goto 33, 3) := by decide +kernel
theorem dX8_payLook_21 : decode cX8_payLook 21 = .ok (.iload_n 1, 1) := by decide +kernel
theorem dX8_payLook_22 : decode cX8_payLook 22 = .ok (.ifCond .lt 29, 3) := by decide +kernel
theorem dX8_payLook_25 : decode cX8_payLook 25 = .ok (.iload_n 1, 1) := by decide +kernel
theorem dX8_payLook_26 : decode cX8_payLook 26 = .ok (.bipush 6, 2) := by decide +kernel
theorem dX8_payLook_28 : decode cX8_payLook 28 = .ok (.if_icmp .ge 23, 3) := by decide +kernel
theorem dX8_payLook_31 : decode cX8_payLook 31 = .ok (.aload_n 0, 1) := by decide +kernel
theorem dX8_payLook_32 : decode cX8_payLook 32 = .ok (.dup, 1) := by decide +kernel
theorem dX8_payLook_33 : decode cX8_payLook 33 = .ok (.getfield 62, 3) := by decide +kernel
theorem dX8_payLook_36 : decode cX8_payLook 36 = .ok (.iload_n 2, 1) := by decide +kernel
theorem dX8_payLook_37 : decode cX8_payLook 37 = .ok (.isub, 1) := by decide +kernel
theorem dX8_payLook_38 : decode cX8_payLook 38 = .ok (.putfield 62, 3) := by decide +kernel
theorem dX8_payLook_41 : decode cX8_payLook 41 = .ok (.aload_n 0, 1) := by decide +kernel
theorem dX8_payLook_42 : decode cX8_payLook 42 = .ok (.getfield 18, 3) := by decide +kernel
theorem dX8_payLook_45 : decode cX8_payLook 45 = .ok (.iload_n 1, 1) := by decide +kernel
theorem dX8_payLook_46 : decode cX8_payLook 46 = .ok (.dup2, 1) := by decide +kernel
theorem dX8_payLook_47 : decode cX8_payLook 47 = .ok (.iaload, 1) := by decide +kernel
theorem dX8_payLook_48 : decode cX8_payLook 48 = .ok (.iload_n 2, 1) := by decide +kernel
theorem dX8_payLook_49 : decode cX8_payLook 49 = .ok (.iadd, 1) := by decide +kernel
theorem dX8_payLook_50 : decode cX8_payLook 50 = .ok (.iastore, 1) := by decide +kernel
theorem dX8_payLook_51 : decode cX8_payLook 51 = .ok (.return_, 1) := by decide +kernel
theorem dX8_sendMan_0 : decode cX8_sendMan 0 = .ok (.iload_n 1, 1) := by decide +kernel
theorem dX8_sendMan_1 : decode cX8_sendMan 1 = .ok (.ifCond .lt 27, 3) := by decide +kernel
theorem dX8_sendMan_4 : decode cX8_sendMan 4 = .ok (.iload_n 1, 1) := by decide +kernel
theorem dX8_sendMan_5 : decode cX8_sendMan 5 = .ok (.bipush 6, 2) := by decide +kernel
theorem dX8_sendMan_7 : decode cX8_sendMan 7 = .ok (.if_icmp .ge 21, 3) := by decide +kernel
theorem dX8_sendMan_10 : decode cX8_sendMan 10 = .ok (.aload_n 0, 1) := by decide +kernel
theorem dX8_sendMan_11 : decode cX8_sendMan 11 = .ok (.getfield 21, 3) := by decide +kernel
theorem dX8_sendMan_14 : decode cX8_sendMan 14 = .ok (.iload_n 1, 1) := by decide +kernel
theorem dX8_sendMan_15 : decode cX8_sendMan 15 = .ok (.iaload, 1) := by decide +kernel
theorem dX8_sendMan_16 : decode cX8_sendMan 16 = .ok (.ifCond .ne 12, 3) := by decide +kernel
theorem dX8_sendMan_19 : decode cX8_sendMan 19 = .ok (.aload_n 0, 1) := by decide +kernel
theorem dX8_sendMan_20 : decode cX8_sendMan 20 = .ok (.getfield 30, 3) := by decide +kernel
theorem dX8_sendMan_23 : decode cX8_sendMan 23 = .ok (.iload_n 1, 1) := by decide +kernel
theorem dX8_sendMan_24 : decode cX8_sendMan 24 = .ok (.baload, 1) := by decide +kernel
theorem dX8_sendMan_25 : decode cX8_sendMan 25 = .ok (.ifCond .eq 4, 3) := by decide +kernel
theorem dX8_sendMan_28 : decode cX8_sendMan 28 = .ok (.return_, 1) := by decide +kernel
theorem dX8_sendMan_29 : decode cX8_sendMan 29 = .ok (.aload_n 0, 1) := by decide +kernel
theorem dX8_sendMan_30 : decode cX8_sendMan 30 = .ok (.invokevirtual 160, 3) := by decide +kernel
theorem dX8_sendMan_33 : decode cX8_sendMan 33 = .ok (.istore_n 2, 1) := by decide +kernel
theorem dX8_sendMan_34 : decode cX8_sendMan 34 = .ok (.iload_n 2, 1) := by decide +kernel
theorem dX8_sendMan_35 : decode cX8_sendMan 35 = .ok (.ifCond .lt 46, 3) := by decide +kernel
theorem dX8_sendMan_38 : decode cX8_sendMan 38 = .ok (.aload_n 0, 1) := by decide +kernel
theorem dX8_sendMan_39 : decode cX8_sendMan 39 = .ok (.iload_n 1, 1) := by decide +kernel
theorem dX8_sendMan_40 : decode cX8_sendMan 40 = .ok (.iload_n 2, 1) := by decide +kernel
theorem dX8_sendMan_41 : decode cX8_sendMan 41 = .ok (.iconst 0, 1) := by decide +kernel
theorem dX8_sendMan_42 : decode cX8_sendMan 42 = .ok (.invokevirtual 164, 3) := by decide +kernel
theorem dX8_sendMan_45 : decode cX8_sendMan 45 = .ok (.ifCond .eq 36, 3) := by decide +kernel
theorem dX8_sendMan_48 : decode cX8_sendMan 48 = .ok (.aload_n 0, 1) := by decide +kernel
theorem dX8_sendMan_49 : decode cX8_sendMan 49 = .ok (.getfield 21, 3) := by decide +kernel
theorem dX8_sendMan_52 : decode cX8_sendMan 52 = .ok (.iload_n 1, 1) := by decide +kernel
theorem dX8_sendMan_53 : decode cX8_sendMan 53 = .ok (.iconst 1, 1) := by decide +kernel
theorem dX8_sendMan_54 : decode cX8_sendMan 54 = .ok (.iastore, 1) := by decide +kernel
theorem dX8_sendMan_55 : decode cX8_sendMan 55 = .ok (.aload_n 0, 1) := by decide +kernel
theorem dX8_sendMan_56 : decode cX8_sendMan 56 = .ok (.getfield 24, 3) := by decide +kernel
theorem dX8_sendMan_59 : decode cX8_sendMan 59 = .ok (.iload_n 1, 1) := by decide +kernel
theorem dX8_sendMan_60 : decode cX8_sendMan 60 = .ok (.iload_n 2, 1) := by decide +kernel
theorem dX8_sendMan_61 : decode cX8_sendMan 61 = .ok (.iastore, 1) := by decide +kernel
theorem dX8_sendMan_62 : decode cX8_sendMan 62 = .ok (.aload_n 0, 1) := by decide +kernel
theorem dX8_sendMan_63 : decode cX8_sendMan 63 = .ok (.getfield 27, 3) := by decide +kernel
theorem dX8_sendMan_66 : decode cX8_sendMan 66 = .ok (.iload_n 1, 1) := by decide +kernel
theorem dX8_sendMan_67 : decode cX8_sendMan 67 = .ok (.iconst 0, 1) := by decide +kernel
theorem dX8_sendMan_68 : decode cX8_sendMan 68 = .ok (.iastore, 1) := by decide +kernel
theorem dX8_sendMan_69 : decode cX8_sendMan 69 = .ok (.aload_n 0, 1) := by decide +kernel
theorem dX8_sendMan_70 : decode cX8_sendMan 70 = .ok (.dup, 1) := by decide +kernel
theorem dX8_sendMan_71 : decode cX8_sendMan 71 = .ok (.getfield 71, 3) := by decide +kernel
theorem dX8_sendMan_74 : decode cX8_sendMan 74 = .ok (.iconst 1, 1) := by decide +kernel
theorem dX8_sendMan_75 : decode cX8_sendMan 75 = .ok (.iload_n 1, 1) := by decide +kernel
theorem dX8_sendMan_76 : decode cX8_sendMan 76 = .ok (.ishl, 1) := by decide +kernel
theorem dX8_sendMan_77 : decode cX8_sendMan 77 = .ok (.ior, 1) := by decide +kernel
theorem dX8_sendMan_78 : decode cX8_sendMan 78 = .ok (.putfield 71, 3) := by decide +kernel
theorem dX8_sendMan_81 : decode cX8_sendMan 81 = .ok (.return_, 1) := by decide +kernel
theorem dX8_moveMan_0 : decode cX8_moveMan 0 = .ok (.iload_n 1, 1) := by decide +kernel
