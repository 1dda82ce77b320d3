theorem dX2_init_103 : decode cX2_init 103 = .ok (.bipush 8, 2) := by decide +kernel
theorem dX2_init_105 : decode cX2_init 105 = .ok (.bipush 20, 2) := by decide +kernel
theorem dX2_init_107 : decode cX2_init 107 = .ok (.iastore, 1) := by decide +kernel
theorem dX2_init_108 : decode cX2_init 108 = .ok (.dup, 1) := by decide +kernel
theorem dX2_init_109 : decode cX2_init 109 = .ok (.bipush 9, 2) := by decide +kernel
theorem dX2_init_111 : decode cX2_init 111 = .ok (.iconst 1, 1) := by decide +kernel
theorem dX2_init_112 : decode cX2_init 112 = .ok (.iastore, 1) := by decide +kernel
theorem dX2_init_113 : decode cX2_init 113 = .ok (.dup, 1) := by decide +kernel
theorem dX2_init_114 : decode cX2_init 114 = .ok (.bipush 10, 2) := by decide +kernel
theorem dX2_init_116 : decode cX2_init 116 = .ok (.bipush 7, 2) := by decide +kernel
theorem dX2_init_118 : decode cX2_init 118 = .ok (.iastore, 1) := by decide +kernel
theorem dX2_init_119 : decode cX2_init 119 = .ok (.putfield 24, 3) := by decide +kernel
theorem dX2_init_122 : decode cX2_init 122 = .ok (.return_, 1) := by decide +kernel
theorem dX2_take_0 : decode cX2_take 0 = .ok (.aload_n 1, 1) := by decide +kernel
theorem dX2_take_1 : decode cX2_take 1 = .ok (.getfield 9, 3) := by decide +kernel
theorem dX2_take_4 : decode cX2_take 4 = .ok (.iconst 0, 1) := by decide +kernel
theorem dX2_take_5 : decode cX2_take 5 = .ok (.aload_n 0, 1) := by decide +kernel
theorem dX2_take_6 : decode cX2_take 6 = .ok (.getfield 9, 3) := by decide +kernel
theorem dX2_take_9 : decode cX2_take 9 = .ok (.iconst 0, 1) := by decide +kernel
theorem dX2_take_10 : decode cX2_take 10 = .ok (.iconst 2, 1) := by decide +kernel
theorem dX2_take_11 : decode cX2_take 11 = .ok (.invokestatic 27, 3) := by decide +kernel
theorem dX2_take_14 : decode cX2_take 14 = .ok (.aload_n 1, 1) := by decide +kernel
theorem dX2_take_15 : decode cX2_take 15 = .ok (.getfield 15, 3) := by decide +kernel
theorem dX2_take_18 : decode cX2_take 18 = .ok (.iconst 0, 1) := by decide +kernel
theorem dX2_take_19 : decode cX2_take 19 = .ok (.aload_n 0, 1) := by decide +kernel
theorem dX2_take_20 : decode cX2_take 20 = .ok (.getfield 15, 3) := by decide +kernel
theorem dX2_take_23 : decode cX2_take 23 = .ok (.iconst 0, 1) := by decide +kernel
theorem dX2_take_24 : decode cX2_take 24 = .ok (.iconst 2, 1) := by decide +kernel
theorem dX2_take_25 : decode cX2_take 25 = .ok (.invokestatic 27, 3) := by decide +kernel
theorem dX2_take_28 : decode cX2_take 28 = .ok (.aload_n 1, 1) := by decide +kernel
theorem dX2_take_29 : decode cX2_take 29 = .ok (.getfield 20, 3) := by decide +kernel
theorem dX2_take_32 : decode cX2_take 32 = .ok (.iconst 0, 1) := by decide +kernel
theorem dX2_take_33 : decode cX2_take 33 = .ok (.aload_n 0, 1) := by decide +kernel
theorem dX2_take_34 : decode cX2_take 34 = .ok (.getfield 20, 3) := by decide +kernel
theorem dX2_take_37 : decode cX2_take 37 = .ok (.iconst 0, 1) := by decide +kernel
theorem dX2_take_38 : decode cX2_take 38 = .ok (.iconst 2, 1) := by decide +kernel
theorem dX2_take_39 : decode cX2_take 39 = .ok (.invokestatic 27, 3) := by decide +kernel
theorem dX2_take_42 : decode cX2_take 42 = .ok (.aload_n 1, 1) := by decide +kernel
theorem dX2_take_43 : decode cX2_take 43 = .ok (.getfield 24, 3) := by decide +kernel
theorem dX2_take_46 : decode cX2_take 46 = .ok (.iconst 0, 1) := by decide +kernel
theorem dX2_take_47 : decode cX2_take 47 = .ok (.aload_n 0, 1) := by decide +kernel
theorem dX2_take_48 : decode cX2_take 48 = .ok (.getfield 24, 3) := by decide +kernel
theorem dX2_take_51 : decode cX2_take 51 = .ok (.iconst 0, 1) := by decide +kernel
theorem dX2_take_52 : decode cX2_take 52 = .ok (.bipush 11, 2) := by decide +kernel
theorem dX2_take_54 : decode cX2_take 54 = .ok (.invokestatic 27, 3) := by decide +kernel
theorem dX2_take_57 : decode cX2_take 57 = .ok (.return_, 1) := by decide +kernel
theorem dX3_init_0 : decode cX3_init 0 = .ok (.aload_n 0, 1) := by decide +kernel
theorem dX3_init_1 : decode cX3_init 1 = .ok (.invokespecial 3, 3) := by decide +kernel
theorem dX3_init_4 : decode cX3_init 4 = .ok (.aload_n 0, 1) := by decide +kernel
theorem dX3_init_5 : decode cX3_init 5 = .ok (.iconst 4, 1) := by decide +kernel
theorem dX3_init_6 : decode cX3_init 6 = .ok (.newarray .int, 2) := by decide +kernel
theorem dX3_init_8 : decode cX3_init 8 = .ok (.putfield 9, 3) := by decide +kernel
theorem dX3_init_11 : decode cX3_init 11 = .ok (.aload_n 0, 1) := by decide +kernel
theorem dX3_init_12 : decode cX3_init 12 = .ok (.iconst 4, 1) := by decide +kernel
theorem dX3_init_13 : decode cX3_init 13 = .ok (.newarray .int, 2) := by decide +kernel
theorem dX3_init_15 : decode cX3_init 15 = .ok (.putfield 15, 3) := by decide +kernel
theorem dX3_init_18 : decode cX3_init 18 = .ok (.aload_n 0, 1) := by decide +kernel
theorem dX3_init_19 : decode cX3_init 19 = .ok (.iconst 4, 1) := by decide +kernel
theorem dX3_init_20 : decode cX3_init 20 = .ok (.newarray .int, 2) := by decide +kernel
theorem dX3_init_22 : decode cX3_init 22 = .ok (.putfield 18, 3) := by decide +kernel
theorem dX3_init_25 : decode cX3_init 25 = .ok (.return_, 1) := by decide +kernel
set_option maxRecDepth 20000 in
theorem ggX3_fill_X3_putGlass : GoodIn wsX3_fill wsX3_putGlass := goodIn_r _ [23, 24, 25, 26, 27, 32, 33, 34, 35, 36, 37, 38, 39, 40, 41, 42, 43, 44, 45, 46, 47, 48, 49] (by decide +kernel) (by decide +kernel)
set_option maxRecDepth 20000 in
theorem gX3_fill_X3_putGlass : GoodIn wsX3_fill (wsV RX3 48 RX3 yX3_putGlass wsX3_putGlass) := goodIn_app (goodIn_of _ (by decide +kernel)) ggX3_fill_X3_putGlass
set_option maxRecDepth 20000 in
theorem ggX3_fill_X6_within : GoodIn wsX3_fill wsX6_within := goodIn_r _ [27] (by decide +kernel) (by decide +kernel)
set_option maxRecDepth 20000 in
theorem gX3_fill_X6_within_n52 : GoodIn wsX3_fill (wsX6_within) := ggX3_fill_X6_within
theorem dX3_fill_0 : decode cX3_fill 0 = .ok (.aload_n 1, 1) := by decide +kernel
theorem dX3_fill_1 : decode cX3_fill 1 = .ok (.getfield 21, 3) := by decide +kernel
theorem dX3_fill_4 : decode cX3_fill 4 = .ok (.astore 6, 2) := by decide +kernel
theorem dX3_fill_6 : decode cX3_fill 6 = .ok (.iconst 0, 1) := by decide +kernel
theorem dX3_fill_7 : decode cX3_fill 7 = .ok (.istore 7, 2) := by decide +kernel
theorem dX3_fill_9 : decode cX3_fill 9 = .ok (.iload 7, 2) := by decide +kernel
theorem dX3_fill_11 : decode cX3_fill 11 = .ok (.iconst 4, 1) := by decide +kernel
theorem dX3_fill_12 : decode cX3_fill 12 = .ok (.if_icmp .ge 31, 3) := by decide +kernel
theorem dX3_fill_15 : decode cX3_fill 15 = .ok (.aload_n 0, 1) := by decide +kernel
theorem dX3_fill_16 : decode cX3_fill 16 = .ok (.getfield 9, 3) := by decide +kernel
theorem dX3_fill_19 : decode cX3_fill 19 = .ok (.iload 7, 2) := by decide +kernel
theorem dX3_fill_21 : decode cX3_fill 21 = .ok (.bipush 100, 2) := by decide +kernel
theorem dX3_fill_23 : decode cX3_fill 23 = .ok (.iload_n 3, 1) := by decide +kernel
theorem dX3_fill_24 : decode cX3_fill 24 = .ok (.imul, 1) := by decide +kernel
theorem dX3_fill_25 : decode cX3_fill 25 = .ok (.iastore, 1) := by decide +kernel
theorem dX3_fill_26 : decode cX3_fill 26 = .ok (.aload_n 0, 1) := by decide +kernel
theorem dX3_fill_27 : decode cX3_fill 27 = .ok (.getfield 18, 3) := by decide +kernel
theorem dX3_fill_30 : decode cX3_fill 30 = .ok (.iload 7, 2) := by decide +kernel
theorem dX3_fill_32 : decode cX3_fill 32 = .ok (.aload 6, 2) := by decide +kernel
theorem dX3_fill_34 : decode cX3_fill 34 = .ok (.iconst 1, 1) := by decide +kernel
theorem dX3_fill_35 : decode cX3_fill 35 = .ok (.iaload, 1) := by decide +kernel
theorem dX3_fill_36 : decode cX3_fill 36 = .ok (.iastore, 1) := by decide +kernel
theorem dX3_fill_37 : decode cX3_fill 37 = .ok (.iinc 7 1, 3) := by decide +kernel
theorem dX3_fill_40 : decode cX3_fill 40 = .ok (.goto (-31), 3) := by decide +kernel
theorem dX3_fill_43 : decode cX3_fill 43 = .ok (.aload_n 0, 1) := by decide +kernel
theorem dX3_fill_44 : decode cX3_fill 44 = .ok (.getfield 18, 3) := by decide +kernel
theorem dX3_fill_47 : decode cX3_fill 47 = .ok (.iconst 0, 1) := by decide +kernel
theorem dX3_fill_48 : decode cX3_fill 48 = .ok (.dup2, 1) := by decide +kernel
theorem dX3_fill_49 : decode cX3_fill 49 = .ok (.iaload, 1) := by decide +kernel
theorem dX3_fill_50 : decode cX3_fill 50 = .ok (.aload 6, 2) := by decide +kernel
theorem dX3_fill_52 : decode cX3_fill 52 = .ok (.iconst 2, 1) := by decide +kernel
theorem dX3_fill_53 : decode cX3_fill 53 = .ok (.iaload, 1) := by decide +kernel
theorem dX3_fill_54 : decode cX3_fill 54 = .ok (.iadd, 1) := by decide +kernel
theorem dX3_fill_55 : decode cX3_fill 55 = .ok (.iastore, 1) := by decide +kernel
theorem dX3_fill_56 : decode cX3_fill 56 = .ok (.aload_n 0, 1) := by decide +kernel
theorem dX3_fill_57 : decode cX3_fill 57 = .ok (.getfield 18, 3) := by decide +kernel
theorem dX3_fill_60 : decode cX3_fill 60 = .ok (.iconst 3, 1) := by decide +kernel
theorem dX3_fill_61 : decode cX3_fill 61 = .ok (.dup2, 1) := by decide +kernel
theorem dX3_fill_62 : decode cX3_fill 62 = .ok (.iaload, 1) := by decide +kernel
theorem dX3_fill_63 : decode cX3_fill 63 = .ok (.aload 6, 2) := by decide +kernel
theorem dX3_fill_65 : decode cX3_fill 65 = .ok (.iconst 3, 1) := by decide +kernel
theorem dX3_fill_66 : decode cX3_fill 66 = .ok (.iaload, 1) := by decide +kernel
theorem dX3_fill_67 : decode cX3_fill 67 = .ok (.iadd, 1) := by decide +kernel
theorem dX3_fill_68 : decode cX3_fill 68 = .ok (.iastore, 1) := by decide +kernel
theorem dX3_fill_69 : decode cX3_fill 69 = .ok (.aload_n 0, 1) := by decide +kernel
theorem dX3_fill_70 : decode cX3_fill 70 = .ok (.aload 6, 2) := by decide +kernel
theorem dX3_fill_72 : decode cX3_fill 72 = .ok (.iconst 1, 1) := by decide +kernel
theorem dX3_fill_73 : decode cX3_fill 73 = .ok (.iaload, 1) := by decide +kernel
theorem dX3_fill_74 : decode cX3_fill 74 = .ok (.aload 6, 2) := by decide +kernel
theorem dX3_fill_76 : decode cX3_fill 76 = .ok (.iconst 4, 1) := by decide +kernel
theorem dX3_fill_77 : decode cX3_fill 77 = .ok (.iaload, 1) := by decide +kernel
theorem dX3_fill_78 : decode cX3_fill 78 = .ok (.iadd, 1) := by decide +kernel
theorem dX3_fill_79 : decode cX3_fill 79 = .ok (.putfield 26, 3) := by decide +kernel
theorem dX3_fill_82 : decode cX3_fill 82 = .ok (.aload_n 0, 1) := by decide +kernel
theorem dX3_fill_83 : decode cX3_fill 83 = .ok (.bipush 100, 2) := by decide +kernel
theorem dX3_fill_85 : decode cX3_fill 85 = .ok (.aload 6, 2) := by decide +kernel
theorem dX3_fill_87 : decode cX3_fill 87 = .ok (.iconst 0, 1) := by decide +kernel
theorem dX3_fill_88 : decode cX3_fill 88 = .ok (.iaload, 1) := by decide +kernel
theorem dX3_fill_89 : decode cX3_fill 89 = .ok (.imul, 1) := by decide +kernel
theorem dX3_fill_90 : decode cX3_fill 90 = .ok (.putfield 30, 3) := by decide +kernel
theorem dX3_fill_93 : decode cX3_fill 93 = .ok (.aload_n 0, 1) := by decide +kernel
theorem dX3_fill_94 : decode cX3_fill 94 = .ok (.aload 6, 2) := by decide +kernel
theorem dX3_fill_96 : decode cX3_fill 96 = .ok (.iconst 5, 1) := by decide +kernel
theorem dX3_fill_97 : decode cX3_fill 97 = .ok (.iaload, 1) := by decide +kernel
theorem dX3_fill_98 : decode cX3_fill 98 = .ok (.putfield 33, 3) := by decide +kernel
theorem dX3_fill_101 : decode cX3_fill 101 = .ok (.aload_n 0, 1) := by decide +kernel
theorem dX3_fill_102 : decode cX3_fill 102 = .ok (.aload 6, 2) := by decide +kernel
theorem dX3_fill_104 : decode cX3_fill 104 = .ok (.bipush 6, 2) := by decide +kernel
theorem dX3_fill_106 : decode cX3_fill 106 = .ok (.iaload, 1) := by decide +kernel
theorem dX3_fill_107 : decode cX3_fill 107 = .ok (.putfield 36, 3) := by decide +kernel
theorem dX3_fill_110 : decode cX3_fill 110 = .ok (.aload_n 0, 1) := by decide +kernel
theorem dX3_fill_111 : decode cX3_fill 111 = .ok (.bipush (-100), 2) := by decide +kernel
theorem dX3_fill_113 : decode cX3_fill 113 = .ok (.iload 4, 2) := by decide +kernel
theorem dX3_fill_115 : decode cX3_fill 115 = .ok (.imul, 1) := by decide +kernel
theorem dX3_fill_116 : decode cX3_fill 116 = .ok (.putfield 39, 3) := by decide +kernel
theorem dX3_fill_119 : decode cX3_fill 119 = .ok (.aload_n 0, 1) := by decide +kernel
theorem dX3_fill_120 : decode cX3_fill 120 = .ok (.sipush 400, 3) := by decide +kernel
theorem dX3_fill_123 : decode cX3_fill 123 = .ok (.aload 6, 2) := by decide +kernel
theorem dX3_fill_125 : decode cX3_fill 125 = .ok (.bipush 8, 2) := by decide +kernel
theorem dX3_fill_127 : decode cX3_fill 127 = .ok (.iaload, 1) := by decide +kernel
theorem dX3_fill_128 : decode cX3_fill 128 = .ok (.imul, 1) := by decide +kernel
theorem dX3_fill_129 : decode cX3_fill 129 = .ok (.putfield 42, 3) := by decide +kernel
theorem dX3_fill_132 : decode cX3_fill 132 = .ok (.aload_n 0, 1) := by decide +kernel
theorem dX3_fill_133 : decode cX3_fill 133 = .ok (.iload 5, 2) := by decide +kernel
theorem dX3_fill_135 : decode cX3_fill 135 = .ok (.putfield 45, 3) := by decide +kernel
theorem dX3_fill_138 : decode cX3_fill 138 = .ok (.aload_n 0, 1) := by decide +kernel
theorem dX3_fill_139 : decode cX3_fill 139 = .ok (.aload 6, 2) := by decide +kernel
theorem dX3_fill_141 : decode cX3_fill 141 = .ok (.bipush 9, 2) := by decide +kernel
theorem dX3_fill_143 : decode cX3_fill 143 = .ok (.iaload, 1) := by decide +kernel
theorem dX3_fill_144 : decode cX3_fill 144 = .ok (.invokevirtual 48, 3) := by decide +kernel
theorem dX3_fill_147 : decode cX3_fill 147 = .ok (.aload_n 0, 1) := by decide +kernel
theorem dX3_fill_148 : decode cX3_fill 148 = .ok (.iload_n 2, 1) := by decide +kernel
theorem dX3_fill_149 : decode cX3_fill 149 = .ok (.iconst 0, 1) := by decide +kernel
theorem dX3_fill_150 : decode cX3_fill 150 = .ok (.iconst 1, 1) := by decide +kernel
theorem dX3_fill_151 : decode cX3_fill 151 = .ok (.invokestatic 52, 3) := by decide +kernel
theorem dX3_fill_154 : decode cX3_fill 154 = .ok (.ifCond .eq 16, 3) := by decide +kernel
theorem dX3_fill_157 : decode cX3_fill 157 = .ok (.sipush 1000, 3) := by decide +kernel
theorem dX3_fill_160 : decode cX3_fill 160 = .ok (.aload_n 1, 1) := by decide +kernel
theorem dX3_fill_161 : decode cX3_fill 161 = .ok (.getfield 56, 3) := by decide +kernel
theorem dX3_fill_164 : decode cX3_fill 164 = .ok (.iload_n 2, 1) := by decide +kernel
theorem dX3_fill_165 : decode cX3_fill 165 = .ok (.iaload, 1) := by decide +kernel
theorem dX3_fill_166 : decode cX3_fill 166 = .ok (.imul, 1) := by decide +kernel
theorem dX3_fill_167 : decode cX3_fill 167 = .ok (.goto 6, 3) := by decide +kernel
theorem dX3_fill_170 : decode cX3_fill 170 = .ok (.sipush 10000, 3) := by decide +kernel
theorem dX3_fill_173 : decode cX3_fill 173 = .ok (.putfield 59, 3) := by decide +kernel
theorem dX3_fill_176 : decode cX3_fill 176 = .ok (.aload_n 0, 1) := by decide +kernel
theorem dX3_fill_177 : decode cX3_fill 177 = .ok (.aload 6, 2) := by decide +kernel
theorem dX3_fill_179 : decode cX3_fill 179 = .ok (.bipush 7, 2) := by decide +kernel
theorem dX3_fill_181 : decode cX3_fill 181 = .ok (.iaload, 1) := by decide +kernel
theorem dX3_fill_182 : decode cX3_fill 182 = .ok (.putfield 62, 3) := by decide +kernel
theorem dX3_fill_185 : decode cX3_fill 185 = .ok (.aload_n 0, 1) := by decide +kernel
theorem dX3_fill_186 : decode cX3_fill 186 = .ok (.iconst 0, 1) := by decide +kernel
theorem dX3_fill_187 : decode cX3_fill 187 = .ok (.putfield 65, 3) := by decide +kernel
theorem dX3_fill_190 : decode cX3_fill 190 = .ok (.aload_n 0, 1) := by decide +kernel
theorem dX3_fill_191 : decode cX3_fill 191 = .ok (.iconst 0, 1) := by decide +kernel
theorem dX3_fill_192 : decode cX3_fill 192 = .ok (.putfield 68, 3) := by decide +kernel
theorem dX3_fill_195 : decode cX3_fill 195 = .ok (.aload_n 0, 1) := by decide +kernel
theorem dX3_fill_196 : decode cX3_fill 196 = .ok (.sipush 601, 3) := by decide +kernel
theorem dX3_fill_199 : decode cX3_fill 199 = .ok (.putfield 71, 3) := by decide +kernel
theorem dX3_fill_202 : decode cX3_fill 202 = .ok (.aload_n 0, 1) := by decide +kernel
theorem dX3_fill_203 : decode cX3_fill 203 = .ok (.sipush 601, 3) := by decide +kernel
theorem dX3_fill_206 : decode cX3_fill 206 = .ok (.putfield 74, 3) := by decide +kernel
theorem dX3_fill_209 : decode cX3_fill 209 = .ok (.aload_n 0, 1) := by decide +kernel
theorem dX3_fill_210 : decode cX3_fill 210 = .ok (.sipush 601, 3) := by decide +kernel
theorem dX3_fill_213 : decode cX3_fill 213 = .ok (.putfield 77, 3) := by decide +kernel
theorem dX3_fill_216 : decode cX3_fill 216 = .ok (.return_, 1) := by decide +kernel
set_option maxRecDepth 20000 in
theorem ggX3_putGlass_X6_within : GoodIn wsX3_putGlass wsX6_within := goodIn_r _ [4] (by decide +kernel) (by decide +kernel)
set_option maxRecDepth 20000 in
theorem gX3_putGlass_X6_within_n52 : GoodIn wsX3_putGlass (wsX6_within) := ggX3_putGlass_X6_within
theorem dX3_putGlass_0 : decode cX3_putGlass 0 = .ok (.aload_n 0, 1) := by decide +kernel
theorem dX3_putGlass_1 : decode cX3_putGlass 1 = .ok (.iload_n 1, 1) := by decide +kernel
theorem dX3_putGlass_2 : decode cX3_putGlass 2 = .ok (.iconst 0, 1) := by decide +kernel
theorem dX3_putGlass_3 : decode cX3_putGlass 3 = .ok (.iconst 3, 1) := by decide +kernel
theorem dX3_putGlass_4 : decode cX3_putGlass 4 = .ok (.invokestatic 52, 3) := by decide +kernel
theorem dX3_putGlass_7 : decode cX3_putGlass 7 = .ok (.ifCond .eq 7, 3) := by decide +kernel
theorem dX3_putGlass_10 : decode cX3_putGlass 10 = .ok (.iload_n 1, 1) := by decide +kernel
theorem dX3_putGlass_11 : decode cX3_putGlass 11 = .ok (.goto 4, 3) := by decide +kernel
theorem dX3_putGlass_14 : decode cX3_putGlass 14 = .ok (.iconst 0, 1) := by decide +kernel
theorem dX3_putGlass_15 : decode cX3_putGlass 15 = .ok (.putfield 80, 3) := by decide +kernel
theorem dX3_putGlass_18 : decode cX3_putGlass 18 = .ok (.return_, 1) := by decide +kernel
set_option maxRecDepth 20000 in
theorem ggX3_goOn_X3_oneRound : GoodIn wsX3_goOn wsX3_oneRound := goodIn_r _ [6, 7, 8, 9, 10, 11, 12, 13, 14, 15, 16, 17, 18, 19, 20, 21, 22, 5, 23, 24, 25, 26, 27, 28, 29, 30, 31, 32, 33, 34, 35, 36, 37, 38, 39, 40, 41, 42, 43, 44, 45, 46, 47, 48, 49, 50, 1, 51, 52, 53, 54, 55, 56, 57, 58, 59, 60, 61, 62, 63, 64, 65, 66, 67, 68, 69, 70, 71, 72, 73, 74, 75, 76, 77] (by decide +kernel) (by decide +kernel)
set_option maxRecDepth 20000 in
theorem gX3_goOn_X3_oneRound : GoodIn wsX3_goOn (wsV RX3 83 RX3 yX3_oneRound wsX3_oneRound) := goodIn_app (goodIn_of _ (by decide +kernel)) ggX3_goOn_X3_oneRound
theorem dX3_goOn_0 : decode cX3_goOn 0 = .ok (.iconst 0, 1) := by decide +kernel
theorem dX3_goOn_1 : decode cX3_goOn 1 = .ok (.istore_n 2, 1) := by decide +kernel
theorem dX3_goOn_2 : decode cX3_goOn 2 = .ok (.iload_n 2, 1) := by decide +kernel
theorem dX3_goOn_3 : decode cX3_goOn 3 = .ok (.iload_n 1, 1) := by decide +kernel
theorem dX3_goOn_4 : decode cX3_goOn 4 = .ok (.if_icmp .ge 23, 3) := by decide +kernel
theorem dX3_goOn_7 : decode cX3_goOn 7 = .ok (.aload_n 0, 1) := by decide +kernel
theorem dX3_goOn_8 : decode cX3_goOn 8 = .ok (.getfield 77, 3) := by decide +kernel
theorem dX3_goOn_11 : decode cX3_goOn 11 = .ok (.sipush 601, 3) := by decide +kernel
theorem dX3_goOn_14 : decode cX3_goOn 14 = .ok (.if_icmp .ne 13, 3) := by decide +kernel
theorem dX3_goOn_17 : decode cX3_goOn 17 = .ok (.aload_n 0, 1) := by decide +kernel
theorem dX3_goOn_18 : decode cX3_goOn 18 = .ok (.invokevirtual 83, 3) := by decide +kernel
theorem dX3_goOn_21 : decode cX3_goOn 21 = .ok (.iinc 2 1, 3) := by decide +kernel
theorem dX3_goOn_24 : decode cX3_goOn 24 = .ok (.goto (-22), 3) := by decide +kernel
theorem dX3_goOn_27 : decode cX3_goOn 27 = .ok (.return_, 1) := by decide +kernel
set_option maxRecDepth 20000 in
theorem ggX3_timeBy_X3_known : GoodIn wsX3_timeBy wsX3_known := goodIn_r _ [6, 7, 8, 1, 64, 65, 66, 67, 68, 69, 70, 71, 72, 73, 74, 75, 76, 77, 78, 79, 80, 81] (by decide +kernel) (by decide +kernel)
set_option maxRecDepth 20000 in
theorem gX3_timeBy_X3_known : GoodIn wsX3_timeBy (wsV RX3 86 RX3 yX3_known wsX3_known) := goodIn_app (goodIn_of _ (by decide +kernel)) ggX3_timeBy_X3_known
set_option maxRecDepth 20000 in
theorem ggX3_timeBy_X3_oneRound : GoodIn wsX3_timeBy wsX3_oneRound := goodIn_r _ [12, 13, 14, 15, 16, 17, 18, 19, 20, 21, 22, 23, 8, 24, 25, 26, 27, 5, 28, 29, 30, 31, 32, 33, 34, 35, 36, 37, 38, 39, 40, 41, 42, 43, 44, 45, 46, 47, 48, 49, 50, 51, 52, 7, 53, 54, 1, 55, 56, 57, 58, 59, 60, 61, 62, 63, 64, 65, 66, 67, 68, 69, 70, 71, 72, 73, 74, 75, 76, 77, 78, 79, 80, 81] (by decide +kernel) (by decide +kernel)
set_option maxRecDepth 20000 in
theorem gX3_timeBy_X3_oneRound : GoodIn wsX3_timeBy (wsV RX3 83 RX3 yX3_oneRound wsX3_oneRound) := goodIn_app (goodIn_of _ (by decide +kernel)) ggX3_timeBy_X3_oneRound
theorem dX3_timeBy_0 : decode cX3_timeBy 0 = .ok (.iconst 0, 1) := by decide +kernel
theorem dX3_timeBy_1 : decode cX3_timeBy 1 = .ok (.istore_n 3, 1) := by decide +kernel
theorem dX3_timeBy_2 : decode cX3_timeBy 2 = .ok (.iload_n 3, 1) := by decide +kernel
theorem dX3_timeBy_3 : decode cX3_timeBy 3 = .ok (.iload_n 2, 1) := by decide +kernel
theorem dX3_timeBy_4 : decode cX3_timeBy 4 = .ok (.if_icmp .ge 34, 3) := by decide +kernel
theorem dX3_timeBy_7 : decode cX3_timeBy 7 = .ok (.aload_n 0, 1) := by decide +kernel
theorem dX3_timeBy_8 : decode cX3_timeBy 8 = .ok (.getfield 77, 3) := by decide +kernel
theorem dX3_timeBy_11 : decode cX3_timeBy 11 = .ok (.sipush 601, 3) := by decide +kernel
theorem dX3_timeBy_14 : decode cX3_timeBy 14 = .ok (.if_icmp .ne 24, 3) := by decide +kernel
theorem dX3_timeBy_17 : decode cX3_timeBy 17 = .ok (.aload_n 0, 1) := by decide +kernel
theorem dX3_timeBy_18 : decode cX3_timeBy 18 = .ok (.iload_n 1, 1) := by decide +kernel
theorem dX3_timeBy_19 : decode cX3_timeBy 19 = .ok (.invokevirtual 86, 3) := by decide +kernel
theorem dX3_timeBy_22 : decode cX3_timeBy 22 = .ok (.sipush 601, 3) := by decide +kernel
theorem dX3_timeBy_25 : decode cX3_timeBy 25 = .ok (.if_icmp .ne 13, 3) := by decide +kernel
theorem dX3_timeBy_28 : decode cX3_timeBy 28 = .ok (.aload_n 0, 1) := by decide +kernel
theorem dX3_timeBy_29 : decode cX3_timeBy 29 = .ok (.invokevirtual 83, 3) := by decide +kernel
theorem dX3_timeBy_32 : decode cX3_timeBy 32 = .ok (.iinc 3 1, 3) := by decide +kernel
theorem dX3_timeBy_35 : decode cX3_timeBy 35 = .ok (.goto (-33), 3) := by decide +kernel
theorem dX3_timeBy_38 : decode cX3_timeBy 38 = .ok (.aload_n 0, 1) := by decide +kernel
theorem dX3_timeBy_39 : decode cX3_timeBy 39 = .ok (.iload_n 1, 1) := by decide +kernel
theorem dX3_timeBy_40 : decode cX3_timeBy 40 = .ok (.invokevirtual 86, 3) := by decide +kernel
theorem dX3_timeBy_43 : decode cX3_timeBy 43 = .ok (.ireturn, 1) := by decide +kernel
set_option maxRecDepth 20000 in
theorem ggX3_shows_X6_within : GoodIn wsX3_shows wsX6_within := goodIn_r _ [7] (by decide +kernel) (by decide +kernel)
set_option maxRecDepth 20000 in
theorem gX3_shows_X6_within_n52 : GoodIn wsX3_shows (wsX6_within) := ggX3_shows_X6_within
theorem dX3_shows_0 : decode cX3_shows 0 = .ok (.iload_n 1, 1) := by decide +kernel
theorem dX3_shows_1 : decode cX3_shows 1 = .ok (.iconst 0, 1) := by decide +kernel
theorem dX3_shows_2 : decode cX3_shows 2 = .ok (.iconst 3, 1) := by decide +kernel
theorem dX3_shows_3 : decode cX3_shows 3 = .ok (.invokestatic 52, 3) := by decide +kernel
theorem dX3_shows_6 : decode cX3_shows 6 = .ok (.ifCond .eq 10, 3) := by decide +kernel
theorem dX3_shows_9 : decode cX3_shows 9 = .ok (.aload_n 0, 1) := by decide +kernel
theorem dX3_shows_10 : decode cX3_shows 10 = .ok (.getfield 9, 3) := by decide +kernel
theorem dX3_shows_13 : decode cX3_shows 13 = .ok (.iload_n 1, 1) := by decide +kernel
theorem dX3_shows_14 : decode cX3_shows 14 = .ok (.iaload, 1) := by decide +kernel
theorem dX3_shows_15 : decode cX3_shows 15 = .ok (.ireturn, 1) := by decide +kernel
theorem dX3_shows_16 : decode cX3_shows 16 = .ok (.iload_n 1, 1) := by decide +kernel
theorem dX3_shows_17 : decode cX3_shows 17 = .ok (.iconst 4, 1) := by decide +kernel
theorem dX3_shows_18 : decode cX3_shows 18 = .ok (.if_icmp .ne 8, 3) := by decide +kernel
theorem dX3_shows_21 : decode cX3_shows 21 = .ok (.aload_n 0, 1) := by decide +kernel
theorem dX3_shows_22 : decode cX3_shows 22 = .ok (.getfield 59, 3) := by decide +kernel
theorem dX3_shows_25 : decode cX3_shows 25 = .ok (.ireturn, 1) := by decide +kernel
theorem dX3_shows_26 : decode cX3_shows 26 = .ok (.iload_n 1, 1) := by decide +kernel
theorem dX3_shows_27 : decode cX3_shows 27 = .ok (.iconst 5, 1) := by decide +kernel
theorem dX3_shows_28 : decode cX3_shows 28 = .ok (.if_icmp .ne 10, 3) := by decide +kernel
theorem dX3_shows_31 : decode cX3_shows 31 = .ok (.aload_n 0, 1) := by decide +kernel
theorem dX3_shows_32 : decode cX3_shows 32 = .ok (.getfield 62, 3) := by decide +kernel
theorem dX3_shows_35 : decode cX3_shows 35 = .ok (.goto 7, 3) := by decide +kernel
theorem dX3_shows_38 : decode cX3_shows 38 = .ok (.aload_n 0, 1) := by decide +kernel
theorem dX3_shows_39 : decode cX3_shows 39 = .ok (.getfield 65, 3) := by decide +kernel
theorem dX3_shows_42 : decode cX3_shows 42 = .ok (.ireturn, 1) := by decide +kernel
theorem dX3_known_0 : decode cX3_known 0 = .ok (.iload_n 1, 1) := by decide +kernel
theorem dX3_known_1 : decode cX3_known 1 = .ok (.ifCond .ne 8, 3) := by decide +kernel
theorem dX3_known_4 : decode cX3_known 4 = .ok (.aload_n 0, 1) := by decide +kernel
theorem dX3_known_5 : decode cX3_known 5 = .ok (.getfield 71, 3) := by decide +kernel
theorem dX3_known_8 : decode cX3_known 8 = .ok (.ireturn, 1) := by decide +kernel
theorem dX3_known_9 : decode cX3_known 9 = .ok (.iload_n 1, 1) := by decide +kernel
theorem dX3_known_10 : decode cX3_known 10 = .ok (.iconst 1, 1) := by decide +kernel
theorem dX3_known_11 : decode cX3_known 11 = .ok (.if_icmp .ne 10, 3) := by decide +kernel
theorem dX3_known_14 : decode cX3_known 14 = .ok (.aload_n 0, 1) := by decide +kernel
theorem dX3_known_15 : decode cX3_known 15 = .ok (.getfield 74, 3) := by decide +kernel
theorem dX3_known_18 : decode cX3_known 18 = .ok (.goto 7, 3) := by decide +kernel
theorem dX3_known_21 : decode cX3_known 21 = .ok (.aload_n 0, 1) := by decide +kernel
theorem dX3_known_22 : decode cX3_known 22 = .ok (.getfield 77, 3) := by decide +kernel
theorem dX3_known_25 : decode cX3_known 25 = .ok (.ireturn, 1) := by decide +kernel
theorem dX3_works_0 : decode cX3_works 0 = .ok (.aload_n 0, 1) := by decide +kernel
theorem dX3_works_1 : decode cX3_works 1 = .ok (.getfield 45, 3) := by decide +kernel
theorem dX3_works_4 : decode cX3_works 4 = .ok (.iload_n 1, 1) := by decide +kernel
theorem dX3_works_5 : decode cX3_works 5 = .ok (.iand, 1) := by decide +kernel
theorem dX3_works_6 : decode cX3_works 6 = .ok (.ifCond .eq 7, 3) := by decide +kernel
theorem dX3_works_9 : decode cX3_works 9 = .ok (.iconst 1, 1) := by decide +kernel
theorem dX3_works_10 : decode cX3_works 10 = .ok (.goto 4, 3) := by decide +kernel
theorem dX3_works_13 : decode cX3_works 13 = .ok (.iconst 0, 1) := by decide +kernel
theorem dX3_works_14 : decode cX3_works 14 = .ok (.ireturn, 1) := by decide +kernel
set_option maxRecDepth 20000 in
theorem ggX3_oneRound_X3_reckonLosses : GoodIn wsX3_oneRound wsX3_reckonLosses := goodIn_r _ [18, 9, 3, 5, 6, 7, 8, 19, 20, 11, 2, 21, 22, 23, 24, 25, 17, 26, 27, 56, 57, 58, 59, 60, 61, 62, 63, 64, 65, 66, 67, 68, 69, 70, 71, 72, 73] (by decide +kernel) (by decide +kernel)
set_option maxRecDepth 20000 in
theorem gX3_oneRound_X3_reckonLosses : GoodIn wsX3_oneRound (wsV RX3 90 RX3 yX3_reckonLosses wsX3_reckonLosses) := goodIn_app (goodIn_of _ (by decide +kernel)) ggX3_oneRound_X3_reckonLosses
set_option maxRecDepth 20000 in
theorem ggX3_oneRound_X3_works : GoodIn wsX3_oneRound wsX3_works := goodIn_r _ [26, 27, 56, 57, 58, 59, 60, 61, 62, 63, 64, 65, 66, 67, 68, 69, 70, 71, 72, 73] (by decide +kernel) (by decide +kernel)
set_option maxRecDepth 20000 in
theorem gX3_oneRound_X3_works : GoodIn wsX3_oneRound (wsV RX3 93 RX3 yX3_works wsX3_works) := goodIn_app (goodIn_of _ (by decide +kernel)) ggX3_oneRound_X3_works
set_option maxRecDepth 20000 in
theorem ggX3_oneRound_X3_turnAbout : GoodIn wsX3_oneRound wsX3_turnAbout := goodIn_r _ [31, 2, 32, 33, 17, 34, 35, 36, 37, 38, 56, 57, 58, 59, 60, 61, 62, 63, 64, 65, 66, 67, 68, 69, 70, 71, 72, 73] (by decide +kernel) (by decide +kernel)
set_option maxRecDepth 20000 in
theorem gX3_oneRound_X3_turnAbout : GoodIn wsX3_oneRound (wsV RX3 103 RX3 yX3_turnAbout wsX3_turnAbout) := goodIn_app (goodIn_of _ (by decide +kernel)) ggX3_oneRound_X3_turnAbout
set_option maxRecDepth 20000 in
theorem ggX3_oneRound_X3_freeze : GoodIn wsX3_oneRound wsX3_freeze := goodIn_r _ [42, 43, 44, 45, 1, 46, 47, 48, 49, 17, 50, 2, 51, 52, 53, 54, 55, 56, 57, 58, 59, 60, 61, 62, 63, 64, 65, 66, 67, 68, 69, 70, 71, 72, 73] (by decide +kernel) (by decide +kernel)
set_option maxRecDepth 20000 in
theorem gX3_oneRound_X3_freeze : GoodIn wsX3_oneRound (wsV RX3 106 RX3 yX3_freeze wsX3_freeze) := goodIn_app (goodIn_of _ (by decide +kernel)) ggX3_oneRound_X3_freeze
theorem dX3_oneRound_0 : decode cX3_oneRound 0 = .ok (.aload_n 0, 1) := by decide +kernel
theorem dX3_oneRound_1 : decode cX3_oneRound 1 = .ok (.dup, 1) := by decide +kernel
theorem dX3_oneRound_2 : decode cX3_oneRound 2 = .ok (.getfield 68, 3) := by decide +kernel
theorem dX3_oneRound_5 : decode cX3_oneRound 5 = .ok (.iconst 1, 1) := by decide +kernel
theorem dX3_oneRound_6 : decode cX3_oneRound 6 = .ok (.iadd, 1) := by decide +kernel
theorem dX3_oneRound_7 : decode cX3_oneRound 7 = .ok (.putfield 68, 3) := by decide +kernel
theorem dX3_oneRound_10 : decode cX3_oneRound 10 = .ok (.aload_n 0, 1) := by decide +kernel
theorem dX3_oneRound_11 : decode cX3_oneRound 11 = .ok (.getfield 9, 3) := by decide +kernel
theorem dX3_oneRound_14 : decode cX3_oneRound 14 = .ok (.iconst 0, 1) := by decide +kernel
theorem dX3_oneRound_15 : decode cX3_oneRound 15 = .ok (.iaload, 1) := by decide +kernel
theorem dX3_oneRound_16 : decode cX3_oneRound 16 = .ok (.istore_n 1, 1) := by decide +kernel
theorem dX3_oneRound_17 : decode cX3_oneRound 17 = .ok (.aload_n 0, 1) := by decide +kernel
theorem dX3_oneRound_18 : decode cX3_oneRound 18 = .ok (.getfield 9, 3) := by decide +kernel
theorem dX3_oneRound_21 : decode cX3_oneRound 21 = .ok (.iconst 3, 1) := by decide +kernel
theorem dX3_oneRound_22 : decode cX3_oneRound 22 = .ok (.iaload, 1) := by decide +kernel
theorem dX3_oneRound_23 : decode cX3_oneRound 23 = .ok (.istore_n 2, 1) := by decide +kernel
theorem dX3_oneRound_24 : decode cX3_oneRound 24 = .ok (.aload_n 0, 1) := by decide +kernel
theorem dX3_oneRound_25 : decode cX3_oneRound 25 = .ok (.invokevirtual 90, 3) := by decide +kernel
theorem dX3_oneRound_28 : decode cX3_oneRound 28 = .ok (.aload_n 0, 1) := by decide +kernel
theorem dX3_oneRound_29 : decode cX3_oneRound 29 = .ok (.iconst 1, 1) := by decide +kernel
theorem dX3_oneRound_30 : decode cX3_oneRound 30 = .ok (.invokevirtual 93, 3) := by decide +kernel
theorem dX3_oneRound_33 : decode cX3_oneRound 33 = .ok (.ifCond .eq 32, 3) := by decide +kernel
theorem dX3_oneRound_36 : decode cX3_oneRound 36 = .ok (.iload_n 1, 1) := by decide +kernel
theorem dX3_oneRound_37 : decode cX3_oneRound 37 = .ok (.ifCond .le 28, 3) := by decide +kernel
theorem dX3_oneRound_40 : decode cX3_oneRound 40 = .ok (.aload_n 0, 1) := by decide +kernel
theorem dX3_oneRound_41 : decode cX3_oneRound 41 = .ok (.sipush 10000, 3) := by decide +kernel
theorem dX3_oneRound_44 : decode cX3_oneRound 44 = .ok (.aload_n 0, 1) := by decide +kernel
theorem dX3_oneRound_45 : decode cX3_oneRound 45 = .ok (.getfield 59, 3) := by decide +kernel
theorem dX3_oneRound_48 : decode cX3_oneRound 48 = .ok (.iload_n 1, 1) := by decide +kernel
theorem dX3_oneRound_49 : decode cX3_oneRound 49 = .ok (.aload_n 0, 1) := by decide +kernel
theorem dX3_oneRound_50 : decode cX3_oneRound 50 = .ok (.getfield 33, 3) := by decide +kernel
theorem dX3_oneRound_53 : decode cX3_oneRound 53 = .ok (.imul, 1) := by decide +kernel
theorem dX3_oneRound_54 : decode cX3_oneRound 54 = .ok (.sipush 1000, 3) := by decide +kernel
theorem dX3_oneRound_57 : decode cX3_oneRound 57 = .ok (.idiv, 1) := by decide +kernel
theorem dX3_oneRound_58 : decode cX3_oneRound 58 = .ok (.isub, 1) := by decide +kernel
theorem dX3_oneRound_59 : decode cX3_oneRound 59 = .ok (.invokestatic 97, 3) := by decide +kernel
theorem dX3_oneRound_62 : decode cX3_oneRound 62 = .ok (.putfield 59, 3) := by decide +kernel
theorem dX3_oneRound_65 : decode cX3_oneRound 65 = .ok (.aload_n 0, 1) := by decide +kernel
theorem dX3_oneRound_66 : decode cX3_oneRound 66 = .ok (.iconst 2, 1) := by decide +kernel
theorem dX3_oneRound_67 : decode cX3_oneRound 67 = .ok (.invokevirtual 93, 3) := by decide +kernel
theorem dX3_oneRound_70 : decode cX3_oneRound 70 = .ok (.ifCond .eq 30, 3) := by decide +kernel
theorem dX3_oneRound_73 : decode cX3_oneRound 73 = .ok (.iload_n 2, 1) := by decide +kernel
theorem dX3_oneRound_74 : decode cX3_oneRound 74 = .ok (.ifCond .le 26, 3) := by decide +kernel
theorem dX3_oneRound_77 : decode cX3_oneRound 77 = .ok (.aload_n 0, 1) := by decide +kernel
theorem dX3_oneRound_78 : decode cX3_oneRound 78 = .ok (.iconst 0, 1) := by decide +kernel
theorem dX3_oneRound_79 : decode cX3_oneRound 79 = .ok (.aload_n 0, 1) := by decide +kernel
theorem dX3_oneRound_80 : decode cX3_oneRound 80 = .ok (.getfield 62, 3) := by decide +kernel
theorem dX3_oneRound_83 : decode cX3_oneRound 83 = .ok (.iload_n 2, 1) := by decide +kernel
theorem dX3_oneRound_84 : decode cX3_oneRound 84 = .ok (.aload_n 0, 1) := by decide +kernel
theorem dX3_oneRound_85 : decode cX3_oneRound 85 = .ok (.getfield 36, 3) := by decide +kernel
theorem dX3_oneRound_88 : decode cX3_oneRound 88 = .ok (.imul, 1) := by decide +kernel
theorem dX3_oneRound_89 : decode cX3_oneRound 89 = .ok (.sipush 10000, 3) := by decide +kernel
theorem dX3_oneRound_92 : decode cX3_oneRound 92 = .ok (.idiv, 1) := by decide +kernel
theorem dX3_oneRound_93 : decode cX3_oneRound 93 = .ok (.isub, 1) := by decide +kernel
theorem dX3_oneRound_94 : decode cX3_oneRound 94 = .ok (.invokestatic 97, 3) := by decide +kernel
theorem dX3_oneRound_97 : decode cX3_oneRound 97 = .ok (.putfield 62, 3) := by decide +kernel
theorem dX3_oneRound_100 : decode cX3_oneRound 100 = .ok (.iconst 0, 1) := by decide +kernel
theorem dX3_oneRound_101 : decode cX3_oneRound 101 = .ok (.istore_n 3, 1) := by decide +kernel
theorem dX3_oneRound_102 : decode cX3_oneRound 102 = .ok (.iload_n 3, 1) := by decide +kernel
theorem dX3_oneRound_103 : decode cX3_oneRound 103 = .ok (.iconst 4, 1) := by decide +kernel
theorem dX3_oneRound_104 : decode cX3_oneRound 104 = .ok (.if_icmp .ge 24, 3) := by decide +kernel
theorem dX3_oneRound_107 : decode cX3_oneRound 107 = .ok (.aload_n 0, 1) := by decide +kernel
theorem dX3_oneRound_108 : decode cX3_oneRound 108 = .ok (.getfield 9, 3) := by decide +kernel
theorem dX3_oneRound_111 : decode cX3_oneRound 111 = .ok (.iload_n 3, 1) := by decide +kernel
theorem dX3_oneRound_112 : decode cX3_oneRound 112 = .ok (.dup2, 1) := by decide +kernel
theorem dX3_oneRound_113 : decode cX3_oneRound 113 = .ok (.iaload, 1) := by decide +kernel
theorem dX3_oneRound_114 : decode cX3_oneRound 114 = .ok (.aload_n 0, 1) := by decide +kernel
theorem dX3_oneRound_115 : decode cX3_oneRound 115 = .ok (.getfield 15, 3) := by decide +kernel
theorem dX3_oneRound_118 : decode cX3_oneRound 118 = .ok (.iload_n 3, 1) := by decide +kernel
theorem dX3_oneRound_119 : decode cX3_oneRound 119 = .ok (.iaload, 1) := by decide +kernel
theorem dX3_oneRound_120 : decode cX3_oneRound 120 = .ok (.isub, 1) := by decide +kernel
theorem dX3_oneRound_121 : decode cX3_oneRound 121 = .ok (.iastore, 1) := by decide +kernel
theorem dX3_oneRound_122 : decode cX3_oneRound 122 = .ok (.iinc 3 1, 3) := by decide +kernel
theorem dX3_oneRound_125 : decode cX3_oneRound 125 = .ok (.goto (-23), 3) := by decide +kernel
theorem dX3_oneRound_128 : decode cX3_oneRound 128 = .ok (.aload_n 0, 1) := by decide +kernel
theorem dX3_oneRound_129 : decode cX3_oneRound 129 = .ok (.iconst 4, 1) := by decide +kernel
theorem dX3_oneRound_130 : decode cX3_oneRound 130 = .ok (.invokevirtual 93, 3) := by decide +kernel
theorem dX3_oneRound_133 : decode cX3_oneRound 133 = .ok (.ifCond .eq 7, 3) := by decide +kernel
theorem dX3_oneRound_136 : decode cX3_oneRound 136 = .ok (.aload_n 0, 1) := by decide +kernel
theorem dX3_oneRound_137 : decode cX3_oneRound 137 = .ok (.invokevirtual 103, 3) := by decide +kernel
theorem dX3_oneRound_140 : decode cX3_oneRound 140 = .ok (.aload_n 0, 1) := by decide +kernel
theorem dX3_oneRound_141 : decode cX3_oneRound 141 = .ok (.invokevirtual 106, 3) := by decide +kernel
theorem dX3_oneRound_144 : decode cX3_oneRound 144 = .ok (.aload_n 0, 1) := by decide +kernel
theorem dX3_oneRound_145 : decode cX3_oneRound 145 = .ok (.getfield 74, 3) := by decide +kernel
theorem dX3_oneRound_148 : decode cX3_oneRound 148 = .ok (.sipush 601, 3) := by decide +kernel
theorem dX3_oneRound_151 : decode cX3_oneRound 151 = .ok (.if_icmp .ne 23, 3) := by decide +kernel
theorem dX3_oneRound_154 : decode cX3_oneRound 154 = .ok (.aload_n 0, 1) := by decide +kernel
theorem dX3_oneRound_155 : decode cX3_oneRound 155 = .ok (.getfield 9, 3) := by decide +kernel
theorem dX3_oneRound_158 : decode cX3_oneRound 158 = .ok (.aload_n 0, 1) := by decide +kernel
theorem dX3_oneRound_159 : decode cX3_oneRound 159 = .ok (.getfield 80, 3) := by decide +kernel
theorem dX3_oneRound_162 : decode cX3_oneRound 162 = .ok (.iaload, 1) := by decide +kernel
theorem dX3_oneRound_163 : decode cX3_oneRound 163 = .ok (.ifCond .gt 11, 3) := by decide +kernel
theorem dX3_oneRound_166 : decode cX3_oneRound 166 = .ok (.aload_n 0, 1) := by decide +kernel
theorem dX3_oneRound_167 : decode cX3_oneRound 167 = .ok (.aload_n 0, 1) := by decide +kernel
theorem dX3_oneRound_168 : decode cX3_oneRound 168 = .ok (.getfield 68, 3) := by decide +kernel
theorem dX3_oneRound_171 : decode cX3_oneRound 171 = .ok (.putfield 74, 3) := by decide +kernel
theorem dX3_oneRound_174 : decode cX3_oneRound 174 = .ok (.return_, 1) := by decide +kernel
set_option maxRecDepth 20000 in
theorem ggX3_reckonLosses_X3_works : GoodIn wsX3_reckonLosses wsX3_works := goodIn_r _ [17, 18, 19, 20, 21, 22, 23, 24, 25, 26, 27, 28, 29, 30, 31, 32, 33, 34, 35, 36] (by decide +kernel) (by decide +kernel)
set_option maxRecDepth 20000 in
theorem gX3_reckonLosses_X3_works : GoodIn wsX3_reckonLosses (wsV RX3 93 RX3 yX3_works wsX3_works) := goodIn_app (goodIn_of _ (by decide +kernel)) ggX3_reckonLosses_X3_works
theorem dX3_reckonLosses_0 : decode cX3_reckonLosses 0 = .ok (.aload_n 0, 1) := by decide +kernel
theorem dX3_reckonLosses_1 : decode cX3_reckonLosses 1 = .ok (.iconst 2, 1) := by decide +kernel
theorem dX3_reckonLosses_2 : decode cX3_reckonLosses 2 = .ok (.invokevirtual 93, 3) := by decide +kernel
theorem dX3_reckonLosses_5 : decode cX3_reckonLosses 5 = .ok (.ifCond .eq 14, 3) := by decide +kernel
theorem dX3_reckonLosses_8 : decode cX3_reckonLosses 8 = .ok (.aload_n 0, 1) := by decide +kernel
theorem dX3_reckonLosses_9 : decode cX3_reckonLosses 9 = .ok (.getfield 62, 3) := by decide +kernel
theorem dX3_reckonLosses_12 : decode cX3_reckonLosses 12 = .ok (.ifCond .le 7, 3) := by decide +kernel
theorem dX3_reckonLosses_15 : decode cX3_reckonLosses 15 = .ok (.iconst 1, 1) := by decide +kernel
theorem dX3_reckonLosses_16 : decode cX3_reckonLosses 16 = .ok (.goto 4, 3) := by decide +kernel
theorem dX3_reckonLosses_19 : decode cX3_reckonLosses 19 = .ok (.iconst 0, 1) := by decide +kernel
theorem dX3_reckonLosses_20 : decode cX3_reckonLosses 20 = .ok (.istore_n 1, 1) := by decide +kernel
theorem dX3_reckonLosses_21 : decode cX3_reckonLosses 21 = .ok (.sipush 10000, 3) := by decide +kernel
theorem dX3_reckonLosses_24 : decode cX3_reckonLosses 24 = .ok (.aload_n 0, 1) := by decide +kernel
theorem dX3_reckonLosses_25 : decode cX3_reckonLosses 25 = .ok (.getfield 59, 3) := by decide +kernel
theorem dX3_reckonLosses_28 : decode cX3_reckonLosses 28 = .ok (.invokestatic 97, 3) := by decide +kernel
theorem dX3_reckonLosses_31 : decode cX3_reckonLosses 31 = .ok (.istore_n 2, 1) := by decide +kernel
theorem dX3_reckonLosses_32 : decode cX3_reckonLosses 32 = .ok (.iconst 0, 1) := by decide +kernel
theorem dX3_reckonLosses_33 : decode cX3_reckonLosses 33 = .ok (.istore_n 3, 1) := by decide +kernel
theorem dX3_reckonLosses_34 : decode cX3_reckonLosses 34 = .ok (.iload_n 3, 1) := by decide +kernel
theorem dX3_reckonLosses_35 : decode cX3_reckonLosses 35 = .ok (.iconst 4, 1) := by decide +kernel
theorem dX3_reckonLosses_36 : decode cX3_reckonLosses 36 = .ok (.if_icmp .ge 62, 3) := by decide +kernel
theorem dX3_reckonLosses_39 : decode cX3_reckonLosses 39 = .ok (.iload_n 1, 1) := by decide +kernel
theorem dX3_reckonLosses_40 : decode cX3_reckonLosses 40 = .ok (.ifCond .eq 15, 3) := by decide +kernel
theorem dX3_reckonLosses_43 : decode cX3_reckonLosses 43 = .ok (.iload_n 3, 1) := by decide +kernel
theorem dX3_reckonLosses_44 : decode cX3_reckonLosses 44 = .ok (.iconst 3, 1) := by decide +kernel
theorem dX3_reckonLosses_45 : decode cX3_reckonLosses 45 = .ok (.if_icmp .ne 10, 3) := by decide +kernel
theorem dX3_reckonLosses_48 : decode cX3_reckonLosses 48 = .ok (.aload_n 0, 1) := by decide +kernel
theorem dX3_reckonLosses_49 : decode cX3_reckonLosses 49 = .ok (.getfield 26, 3) := by decide +kernel
theorem dX3_reckonLosses_52 : decode cX3_reckonLosses 52 = .ok (.goto 9, 3) := by decide +kernel
theorem dX3_reckonLosses_55 : decode cX3_reckonLosses 55 = .ok (.aload_n 0, 1) := by decide +kernel
theorem dX3_reckonLosses_56 : decode cX3_reckonLosses 56 = .ok (.getfield 18, 3) := by decide +kernel
theorem dX3_reckonLosses_59 : decode cX3_reckonLosses 59 = .ok (.iload_n 3, 1) := by decide +kernel
theorem dX3_reckonLosses_60 : decode cX3_reckonLosses 60 = .ok (.iaload, 1) := by decide +kernel
theorem dX3_reckonLosses_61 : decode cX3_reckonLosses 61 = .ok (.istore 4, 2) := by decide +kernel
theorem dX3_reckonLosses_63 : decode cX3_reckonLosses 63 = .ok (.aload_n 0, 1) := by decide +kernel
theorem dX3_reckonLosses_64 : decode cX3_reckonLosses 64 = .ok (.getfield 15, 3) := by decide +kernel
theorem dX3_reckonLosses_67 : decode cX3_reckonLosses 67 = .ok (.iload_n 3, 1) := by decide +kernel
theorem dX3_reckonLosses_68 : decode cX3_reckonLosses 68 = .ok (.aload_n 0, 1) := by decide +kernel
theorem dX3_reckonLosses_69 : decode cX3_reckonLosses 69 = .ok (.getfield 9, 3) := by decide +kernel
theorem dX3_reckonLosses_72 : decode cX3_reckonLosses 72 = .ok (.iload_n 3, 1) := by decide +kernel
theorem dX3_reckonLosses_73 : decode cX3_reckonLosses 73 = .ok (.iaload, 1) := by decide +kernel
theorem dX3_reckonLosses_74 : decode cX3_reckonLosses 74 = .ok (.aload_n 0, 1) := by decide +kernel
theorem dX3_reckonLosses_75 : decode cX3_reckonLosses 75 = .ok (.getfield 30, 3) := by decide +kernel
theorem dX3_reckonLosses_78 : decode cX3_reckonLosses 78 = .ok (.iadd, 1) := by decide +kernel
theorem dX3_reckonLosses_79 : decode cX3_reckonLosses 79 = .ok (.iload 4, 2) := by decide +kernel
theorem dX3_reckonLosses_81 : decode cX3_reckonLosses 81 = .ok (.imul, 1) := by decide +kernel
theorem dX3_reckonLosses_82 : decode cX3_reckonLosses 82 = .ok (.sipush 1000, 3) := by decide +kernel
theorem dX3_reckonLosses_85 : decode cX3_reckonLosses 85 = .ok (.idiv, 1) := by decide +kernel
theorem dX3_reckonLosses_86 : decode cX3_reckonLosses 86 = .ok (.ldc 109, 2) := by decide +kernel
theorem dX3_reckonLosses_88 : decode cX3_reckonLosses 88 = .ok (.imul, 1) := by decide +kernel
theorem dX3_reckonLosses_89 : decode cX3_reckonLosses 89 = .ok (.iload_n 2, 1) := by decide +kernel
theorem dX3_reckonLosses_90 : decode cX3_reckonLosses 90 = .ok (.idiv, 1) := by decide +kernel
theorem dX3_reckonLosses_91 : decode cX3_reckonLosses 91 = .ok (.iastore, 1) := by decide +kernel
theorem dX3_reckonLosses_92 : decode cX3_reckonLosses 92 = .ok (.iinc 3 1, 3) := by decide +kernel
theorem dX3_reckonLosses_95 : decode cX3_reckonLosses 95 = .ok (.goto (-61), 3) := by decide +kernel
theorem dX3_reckonLosses_98 : decode cX3_reckonLosses 98 = .ok (.return_, 1) := by decide +kernel
set_option maxRecDepth 20000 in
theorem ggX3_turnAbout_X3_fromStill : GoodIn wsX3_turnAbout wsX3_fromStill := goodIn_r _ [5] (by decide +kernel) (by decide +kernel)
set_option maxRecDepth 20000 in
theorem gX3_turnAbout_X3_fromStill : GoodIn wsX3_turnAbout (va_wsS RX3 110 yX3_fromStill wsX3_fromStill) := goodIn_app (goodIn_of _ (by decide +kernel)) ggX3_turnAbout_X3_fromStill
set_option maxRecDepth 20000 in
theorem ggX3_turnAbout_J9_floorDiv_7cf53 : GoodIn wsX3_turnAbout wsJ9_floorDiv_7cf53 := goodIn_r _ [9] (by decide +kernel) (by decide +kernel)
set_option maxRecDepth 20000 in
theorem gX3_turnAbout_J9_floorDiv_7cf53 : GoodIn wsX3_turnAbout (va_wsS RX3 113 yJ9_floorDiv_7cf53 wsJ9_floorDiv_7cf53) := goodIn_app (goodIn_of _ (by decide +kernel)) ggX3_turnAbout_J9_floorDiv_7cf53
theorem dX3_turnAbout_0 : decode cX3_turnAbout 0 = .ok (.iconst 0, 1) := by decide +kernel
theorem dX3_turnAbout_1 : decode cX3_turnAbout 1 = .ok (.istore_n 1, 1) := by decide +kernel
theorem dX3_turnAbout_2 : decode cX3_turnAbout 2 = .ok (.iload_n 1, 1) := by decide +kernel
theorem dX3_turnAbout_3 : decode cX3_turnAbout 3 = .ok (.iconst 1, 1) := by decide +kernel
theorem dX3_turnAbout_4 : decode cX3_turnAbout 4 = .ok (.iadd, 1) := by decide +kernel
theorem dX3_turnAbout_5 : decode cX3_turnAbout 5 = .ok (.iconst 4, 1) := by decide +kernel
theorem dX3_turnAbout_6 : decode cX3_turnAbout 6 = .ok (.if_icmp .ge 73, 3) := by decide +kernel
theorem dX3_turnAbout_9 : decode cX3_turnAbout 9 = .ok (.iload_n 1, 1) := by decide +kernel
theorem dX3_turnAbout_10 : decode cX3_turnAbout 10 = .ok (.iconst 1, 1) := by decide +kernel
theorem dX3_turnAbout_11 : decode cX3_turnAbout 11 = .ok (.iadd, 1) := by decide +kernel
theorem dX3_turnAbout_12 : decode cX3_turnAbout 12 = .ok (.istore_n 2, 1) := by decide +kernel
theorem dX3_turnAbout_13 : decode cX3_turnAbout 13 = .ok (.aload_n 0, 1) := by decide +kernel
theorem dX3_turnAbout_14 : decode cX3_turnAbout 14 = .ok (.getfield 9, 3) := by decide +kernel
theorem dX3_turnAbout_17 : decode cX3_turnAbout 17 = .ok (.iload_n 2, 1) := by decide +kernel
theorem dX3_turnAbout_18 : decode cX3_turnAbout 18 = .ok (.iaload, 1) := by decide +kernel
theorem dX3_turnAbout_19 : decode cX3_turnAbout 19 = .ok (.invokestatic 110, 3) := by decide +kernel
theorem dX3_turnAbout_22 : decode cX3_turnAbout 22 = .ok (.aload_n 0, 1) := by decide +kernel
theorem dX3_turnAbout_23 : decode cX3_turnAbout 23 = .ok (.getfield 9, 3) := by decide +kernel
theorem dX3_turnAbout_26 : decode cX3_turnAbout 26 = .ok (.iload_n 1, 1) := by decide +kernel
theorem dX3_turnAbout_27 : decode cX3_turnAbout 27 = .ok (.iaload, 1) := by decide +kernel
theorem dX3_turnAbout_28 : decode cX3_turnAbout 28 = .ok (.invokestatic 110, 3) := by decide +kernel
theorem dX3_turnAbout_31 : decode cX3_turnAbout 31 = .ok (.if_icmp .le 42, 3) := by decide +kernel
theorem dX3_turnAbout_34 : decode cX3_turnAbout 34 = .ok (.aload_n 0, 1) := by decide +kernel
theorem dX3_turnAbout_35 : decode cX3_turnAbout 35 = .ok (.getfield 9, 3) := by decide +kernel
theorem dX3_turnAbout_38 : decode cX3_turnAbout 38 = .ok (.iload_n 1, 1) := by decide +kernel
theorem dX3_turnAbout_39 : decode cX3_turnAbout 39 = .ok (.iaload, 1) := by decide +kernel
theorem dX3_turnAbout_40 : decode cX3_turnAbout 40 = .ok (.aload_n 0, 1) := by decide +kernel
theorem dX3_turnAbout_41 : decode cX3_turnAbout 41 = .ok (.getfield 9, 3) := by decide +kernel
theorem dX3_turnAbout_44 : decode cX3_turnAbout 44 = .ok (.iload_n 2, 1) := by decide +kernel
theorem dX3_turnAbout_45 : decode cX3_turnAbout 45 = .ok (.iaload, 1) := by decide +kernel
theorem dX3_turnAbout_46 : decode cX3_turnAbout 46 = .ok (.iadd, 1) := by decide +kernel
theorem dX3_turnAbout_47 : decode cX3_turnAbout 47 = .ok (.istore_n 3, 1) := by decide +kernel
theorem dX3_turnAbout_48 : decode cX3_turnAbout 48 = .ok (.aload_n 0, 1) := by decide +kernel
theorem dX3_turnAbout_49 : decode cX3_turnAbout 49 = .ok (.getfield 9, 3) := by decide +kernel
theorem dX3_turnAbout_52 : decode cX3_turnAbout 52 = .ok (.iload_n 1, 1) := by decide +kernel
theorem dX3_turnAbout_53 : decode cX3_turnAbout 53 = .ok (.iload_n 3, 1) := by decide +kernel
theorem dX3_turnAbout_54 : decode cX3_turnAbout 54 = .ok (.iconst 2, 1) := by decide +kernel
theorem dX3_turnAbout_55 : decode cX3_turnAbout 55 = .ok (.invokestatic 113, 3) := by decide +kernel
theorem dX3_turnAbout_58 : decode cX3_turnAbout 58 = .ok (.iastore, 1) := by decide +kernel
theorem dX3_turnAbout_59 : decode cX3_turnAbout 59 = .ok (.aload_n 0, 1) := by decide +kernel
theorem dX3_turnAbout_60 : decode cX3_turnAbout 60 = .ok (.getfield 9, 3) := by decide +kernel
theorem dX3_turnAbout_63 : decode cX3_turnAbout 63 = .ok (.iload_n 2, 1) := by decide +kernel
theorem dX3_turnAbout_64 : decode cX3_turnAbout 64 = .ok (.iload_n 3, 1) := by decide +kernel
theorem dX3_turnAbout_65 : decode cX3_turnAbout 65 = .ok (.aload_n 0, 1) := by decide +kernel
theorem dX3_turnAbout_66 : decode cX3_turnAbout 66 = .ok (.getfield 9, 3) := by decide +kernel
theorem dX3_turnAbout_69 : decode cX3_turnAbout 69 = .ok (.iload_n 1, 1) := by decide +kernel
theorem dX3_turnAbout_70 : decode cX3_turnAbout 70 = .ok (.iaload, 1) := by decide +kernel
theorem dX3_turnAbout_71 : decode cX3_turnAbout 71 = .ok (.isub, 1) := by decide +kernel
theorem dX3_turnAbout_72 : decode cX3_turnAbout 72 = .ok (.iastore, 1) := by decide +kernel
theorem dX3_turnAbout_73 : decode cX3_turnAbout 73 = .ok (.iinc 1 1, 3) := by decide +kernel
theorem dX3_turnAbout_76 : decode cX3_turnAbout 76 = .ok (.goto (-74), 3) := by decide +kernel
theorem dX3_turnAbout_79 : decode cX3_turnAbout 79 = .ok (.return_, 1) := by decide +kernel
theorem dX3_fromStill_0 : decode cX3_fromStill 0 = .ok (.iload_n 0, 1) := by decide +kernel
theorem dX3_fromStill_1 : decode cX3_fromStill 1 = .ok (.sipush 400, 3) := by decide +kernel
theorem dX3_fromStill_4 : decode cX3_fromStill 4 = .ok (.isub, 1) := by decide +kernel
theorem dX3_fromStill_5 : decode cX3_fromStill 5 = .ok (.istore_n 1, 1) := by decide +kernel
theorem dX3_fromStill_6 : decode cX3_fromStill 6 = .ok (.iload_n 1, 1) := by decide +kernel
theorem dX3_fromStill_7 : decode cX3_fromStill 7 = .ok (.ifCond .ge 8, 3) := by decide +kernel
theorem dX3_fromStill_10 : decode cX3_fromStill 10 = .ok (.iload_n 1, 1) := by decide +kernel
theorem dX3_fromStill_11 : decode cX3_fromStill 11 = .ok (.ineg, 1) := by decide +kernel
theorem dX3_fromStill_12 : decode cX3_fromStill 12 = .ok (.goto 4, 3) := by decide +kernel
theorem dX3_fromStill_15 : decode cX3_fromStill 15 = .ok (.iload_n 1, 1) := by decide +kernel
theorem dX3_fromStill_16 : decode cX3_fromStill 16 = .ok (.ireturn, 1) := by decide +kernel
set_option maxRecDepth 20000 in
theorem ggX3_freeze_X3_takeBelowNought : GoodIn wsX3_freeze wsX3_takeBelowNought := goodIn_r _ [10, 11, 17, 18, 19, 20, 21, 22, 23, 24, 25, 26, 27, 28, 29, 30, 31, 32, 33, 34] (by decide +kernel) (by decide +kernel)
set_option maxRecDepth 20000 in
theorem gX3_freeze_X3_takeBelowNought : GoodIn wsX3_freeze (wsV RX3 116 RX3 yX3_takeBelowNought wsX3_takeBelowNought) := goodIn_app (goodIn_of _ (by decide +kernel)) ggX3_freeze_X3_takeBelowNought
set_option maxRecDepth 20000 in
theorem ggX3_freeze_X3_needleStands : GoodIn wsX3_freeze wsX3_needleStands := goodIn_r _ [15, 11, 16, 17, 18, 19, 20, 21, 22, 23, 24, 25, 26, 27, 28, 29, 30, 31, 32, 33, 34] (by decide +kernel) (by decide +kernel)
set_option maxRecDepth 20000 in
theorem gX3_freeze_X3_needleStands : GoodIn wsX3_freeze (wsV RX3 120 RX3 yX3_needleStands wsX3_needleStands) := goodIn_app (goodIn_of _ (by decide +kernel)) ggX3_freeze_X3_needleStands
theorem dX3_freeze_0 : decode cX3_freeze 0 = .ok (.aload_n 0, 1) := by decide +kernel
theorem dX3_freeze_1 : decode cX3_freeze 1 = .ok (.getfield 71, 3) := by decide +kernel
theorem dX3_freeze_4 : decode cX3_freeze 4 = .ok (.sipush 601, 3) := by decide +kernel
theorem dX3_freeze_7 : decode cX3_freeze 7 = .ok (.if_icmp .eq 38, 3) := by decide +kernel
theorem dX3_freeze_10 : decode cX3_freeze 10 = .ok (.aload_n 0, 1) := by decide +kernel
theorem dX3_freeze_11 : decode cX3_freeze 11 = .ok (.dup, 1) := by decide +kernel
theorem dX3_freeze_12 : decode cX3_freeze 12 = .ok (.getfield 65, 3) := by decide +kernel
theorem dX3_freeze_15 : decode cX3_freeze 15 = .ok (.aload_n 0, 1) := by decide +kernel
theorem dX3_freeze_16 : decode cX3_freeze 16 = .ok (.invokevirtual 116, 3) := by decide +kernel
theorem dX3_freeze_19 : decode cX3_freeze 19 = .ok (.iadd, 1) := by decide +kernel
theorem dX3_freeze_20 : decode cX3_freeze 20 = .ok (.putfield 65, 3) := by decide +kernel
theorem dX3_freeze_23 : decode cX3_freeze 23 = .ok (.aload_n 0, 1) := by decide +kernel
theorem dX3_freeze_24 : decode cX3_freeze 24 = .ok (.getfield 65, 3) := by decide +kernel
theorem dX3_freeze_27 : decode cX3_freeze 27 = .ok (.aload_n 0, 1) := by decide +kernel
theorem dX3_freeze_28 : decode cX3_freeze 28 = .ok (.getfield 42, 3) := by decide +kernel
theorem dX3_freeze_31 : decode cX3_freeze 31 = .ok (.if_icmp .lt 34, 3) := by decide +kernel
theorem dX3_freeze_34 : decode cX3_freeze 34 = .ok (.aload_n 0, 1) := by decide +kernel
theorem dX3_freeze_35 : decode cX3_freeze 35 = .ok (.aload_n 0, 1) := by decide +kernel
theorem dX3_freeze_36 : decode cX3_freeze 36 = .ok (.getfield 68, 3) := by decide +kernel
theorem dX3_freeze_39 : decode cX3_freeze 39 = .ok (.putfield 77, 3) := by decide +kernel
theorem dX3_freeze_42 : decode cX3_freeze 42 = .ok (.goto 23, 3) := by decide +kernel
theorem dX3_freeze_45 : decode cX3_freeze 45 = .ok (.aload_n 0, 1) := by decide +kernel
theorem dX3_freeze_46 : decode cX3_freeze 46 = .ok (.invokevirtual 120, 3) := by decide +kernel
theorem dX3_freeze_49 : decode cX3_freeze 49 = .ok (.ifCond .eq 16, 3) := by decide +kernel
theorem dX3_freeze_52 : decode cX3_freeze 52 = .ok (.aload_n 0, 1) := by decide +kernel
theorem dX3_freeze_53 : decode cX3_freeze 53 = .ok (.aload_n 0, 1) := by decide +kernel
theorem dX3_freeze_54 : decode cX3_freeze 54 = .ok (.getfield 68, 3) := by decide +kernel
theorem dX3_freeze_57 : decode cX3_freeze 57 = .ok (.putfield 71, 3) := by decide +kernel
theorem dX3_freeze_60 : decode cX3_freeze 60 = .ok (.aload_n 0, 1) := by decide +kernel
theorem dX3_freeze_61 : decode cX3_freeze 61 = .ok (.invokevirtual 116, 3) := by decide +kernel
theorem dX3_freeze_64 : decode cX3_freeze 64 = .ok (.pop, 1) := by decide +kernel
theorem dX3_freeze_65 : decode cX3_freeze 65 = .ok (.return_, 1) := by decide +kernel
theorem dX3_needleStands_0 : decode cX3_needleStands 0 = .ok (.iconst 0, 1) := by decide +kernel
theorem dX3_needleStands_1 : decode cX3_needleStands 1 = .ok (.istore_n 1, 1) := by decide +kernel
theorem dX3_needleStands_2 : decode cX3_needleStands 2 = .ok (.iload_n 1, 1) := by decide +kernel
theorem dX3_needleStands_3 : decode cX3_needleStands 3 = .ok (.iconst 4, 1) := by decide +kernel
theorem dX3_needleStands_4 : decode cX3_needleStands 4 = .ok (.if_icmp .ge 24, 3) := by decide +kernel
theorem dX3_needleStands_7 : decode cX3_needleStands 7 = .ok (.aload_n 0, 1) := by decide +kernel
theorem dX3_needleStands_8 : decode cX3_needleStands 8 = .ok (.getfield 9, 3) := by decide +kernel
theorem dX3_needleStands_11 : decode cX3_needleStands 11 = .ok (.iload_n 1, 1) := by decide +kernel
theorem dX3_needleStands_12 : decode cX3_needleStands 12 = .ok (.iaload, 1) := by decide +kernel
theorem dX3_needleStands_13 : decode cX3_needleStands 13 = .ok (.aload_n 0, 1) := by decide +kernel
theorem dX3_needleStands_14 : decode cX3_needleStands 14 = .ok (.getfield 39, 3) := by decide +kernel
theorem dX3_needleStands_17 : decode cX3_needleStands 17 = .ok (.if_icmp .gt 5, 3) := by decide +kernel
theorem dX3_needleStands_20 : decode cX3_needleStands 20 = .ok (.iconst 1, 1) := by decide +kernel
theorem dX3_needleStands_21 : decode cX3_needleStands 21 = .ok (.ireturn, 1) := by decide +kernel
theorem dX3_needleStands_22 : decode cX3_needleStands 22 = .ok (.iinc 1 1, 3) := by decide +kernel
theorem dX3_needleStands_25 : decode cX3_needleStands 25 = .ok (.goto (-23), 3) := by decide +kernel
theorem dX3_needleStands_28 : decode cX3_needleStands 28 = .ok (.iconst 0, 1) := by decide +kernel
theorem dX3_needleStands_29 : decode cX3_needleStands 29 = .ok (.ireturn, 1) := by decide +kernel
theorem dX3_takeBelowNought_0 : decode cX3_takeBelowNought 0 = .ok (.iconst 0, 1) := by decide +kernel
theorem dX3_takeBelowNought_1 : decode cX3_takeBelowNought 1 = .ok (.istore_n 1, 1) := by decide +kernel
theorem dX3_takeBelowNought_2 : decode cX3_takeBelowNought 2 = .ok (.iconst 0, 1) := by decide +kernel
theorem dX3_takeBelowNought_3 : decode cX3_takeBelowNought 3 = .ok (.istore_n 2, 1) := by decide +kernel
theorem dX3_takeBelowNought_4 : decode cX3_takeBelowNought 4 = .ok (.iload_n 2, 1) := by decide +kernel
theorem dX3_takeBelowNought_5 : decode cX3_takeBelowNought 5 = .ok (.iconst 4, 1) := by decide +kernel
theorem dX3_takeBelowNought_6 : decode cX3_takeBelowNought 6 = .ok (.if_icmp .ge 34, 3) := by decide +kernel
theorem dX3_takeBelowNought_9 : decode cX3_takeBelowNought 9 = .ok (.aload_n 0, 1) := by decide +kernel
theorem dX3_takeBelowNought_10 : decode cX3_takeBelowNought 10 = .ok (.getfield 9, 3) := by decide +kernel
theorem dX3_takeBelowNought_13 : decode cX3_takeBelowNought 13 = .ok (.iload_n 2, 1) := by decide +kernel
theorem dX3_takeBelowNought_14 : decode cX3_takeBelowNought 14 = .ok (.iaload, 1) := by decide +kernel
theorem dX3_takeBelowNought_15 : decode cX3_takeBelowNought 15 = .ok (.ifCond .ge 19, 3) := by decide +kernel
theorem dX3_takeBelowNought_18 : decode cX3_takeBelowNought 18 = .ok (.iload_n 1, 1) := by decide +kernel
theorem dX3_takeBelowNought_19 : decode cX3_takeBelowNought 19 = .ok (.aload_n 0, 1) := by decide +kernel
theorem dX3_takeBelowNought_20 : decode cX3_takeBelowNought 20 = .ok (.getfield 9, 3) := by decide +kernel
theorem dX3_takeBelowNought_23 : decode cX3_takeBelowNought 23 = .ok (.iload_n 2, 1) := by decide +kernel
theorem dX3_takeBelowNought_24 : decode cX3_takeBelowNought 24 = .ok (.iaload, 1) := by decide +kernel
theorem dX3_takeBelowNought_25 : decode cX3_takeBelowNought 25 = .ok (.isub, 1) := by decide +kernel
theorem dX3_takeBelowNought_26 : decode cX3_takeBelowNought 26 = .ok (.istore_n 1, 1) := by decide +kernel
theorem dX3_takeBelowNought_27 : decode cX3_takeBelowNought 27 = .ok (.aload_n 0, 1) := by decide +kernel
theorem dX3_takeBelowNought_28 : decode cX3_takeBelowNought 28 = .ok (.getfield 9, 3) := by decide +kernel
theorem dX3_takeBelowNought_31 : decode cX3_takeBelowNought 31 = .ok (.iload_n 2, 1) := by decide +kernel
theorem dX3_takeBelowNought_32 : decode cX3_takeBelowNought 32 = .ok (.iconst 0, 1) := by decide +kernel
theorem dX3_takeBelowNought_33 : decode cX3_takeBelowNought 33 = .ok (.iastore, 1) := by decide +kernel
theorem dX3_takeBelowNought_34 : decode cX3_takeBelowNought 34 = .ok (.iinc 2 1, 3) := by decide +kernel
theorem dX3_takeBelowNought_37 : decode cX3_takeBelowNought 37 = .ok (.goto (-33), 3) := by decide +kernel
theorem dX3_takeBelowNought_40 : decode cX3_takeBelowNought 40 = .ok (.iload_n 1, 1) := by decide +kernel
theorem dX3_takeBelowNought_41 : decode cX3_takeBelowNought 41 = .ok (.ireturn, 1) := by decide +kernel
set_option maxRecDepth 20000 in
theorem ggX4_init_X5_init : GoodIn wsX4_init wsX5_init := goodIn_r _ [11, 12, 2, 3, 8, 13, 14, 15, 16, 17] (by decide +kernel) (by decide +kernel)
set_option maxRecDepth 20000 in
theorem gX4_init_X5_init_n11 : GoodIn wsX4_init (wsX5_init) := ggX4_init_X5_init
theorem dX4_init_0 : decode cX4_init 0 = .ok (.aload_n 0, 1) := by decide +kernel
theorem dX4_init_1 : decode cX4_init 1 = .ok (.invokespecial 3, 3) := by decide +kernel
theorem dX4_init_4 : decode cX4_init 4 = .ok (.aload_n 0, 1) := by decide +kernel
theorem dX4_init_5 : decode cX4_init 5 = .ok (.new 9, 3) := by decide +kernel
theorem dX4_init_8 : decode cX4_init 8 = .ok (.dup, 1) := by decide +kernel
theorem dX4_init_9 : decode cX4_init 9 = .ok (.invokespecial 11, 3) := by decide +kernel
theorem dX4_init_12 : decode cX4_init 12 = .ok (.putfield 12, 3) := by decide +kernel
theorem dX4_init_15 : decode cX4_init 15 = .ok (.aload_n 0, 1) := by decide +kernel
theorem dX4_init_16 : decode cX4_init 16 = .ok (.bipush 60, 2) := by decide +kernel
theorem dX4_init_18 : decode cX4_init 18 = .ok (.newarray .int, 2) := by decide +kernel
theorem dX4_init_20 : decode cX4_init 20 = .ok (.putfield 18, 3) := by decide +kernel
theorem dX4_init_23 : decode cX4_init 23 = .ok (.return_, 1) := by decide +kernel
theorem dX4_add_0 : decode cX4_add 0 = .ok (.aload_n 0, 1) := by decide +kernel
theorem dX4_add_1 : decode cX4_add 1 = .ok (.getfield 22, 3) := by decide +kernel
theorem dX4_add_4 : decode cX4_add 4 = .ok (.bipush 60, 2) := by decide +kernel
theorem dX4_add_6 : decode cX4_add 6 = .ok (.if_icmp .lt 4, 3) := by decide +kernel
theorem dX4_add_9 : decode cX4_add 9 = .ok (.return_, 1) := by decide +kernel
theorem dX4_add_10 : decode cX4_add 10 = .ok (.aload_n 0, 1) := by decide +kernel
theorem dX4_add_11 : decode cX4_add 11 = .ok (.getfield 18, 3) := by decide +kernel
theorem dX4_add_14 : decode cX4_add 14 = .ok (.aload_n 0, 1) := by decide +kernel
theorem dX4_add_15 : decode cX4_add 15 = .ok (.getfield 22, 3) := by decide +kernel
theorem dX4_add_18 : decode cX4_add 18 = .ok (.iload_n 1, 1) := by decide +kernel
theorem dX4_add_19 : decode cX4_add 19 = .ok (.iastore, 1) := by decide +kernel
theorem dX4_add_20 : decode cX4_add 20 = .ok (.aload_n 0, 1) := by decide +kernel
theorem dX4_add_21 : decode cX4_add 21 = .ok (.dup, 1) := by decide +kernel
theorem dX4_add_22 : decode cX4_add 22 = .ok (.getfield 22, 3) := by decide +kernel
theorem dX4_add_25 : decode cX4_add 25 = .ok (.iconst 1, 1) := by decide +kernel
theorem dX4_add_26 : decode cX4_add 26 = .ok (.iadd, 1) := by decide +kernel
theorem dX4_add_27 : decode cX4_add 27 = .ok (.putfield 22, 3) := by decide +kernel
theorem dX4_add_30 : decode cX4_add 30 = .ok (.return_, 1) := by decide +kernel
set_option maxRecDepth 20000 in
theorem ggX4_read_X4_stands : GoodIn wsX4_read wsX4_stands := goodIn_r _ [11, 3, 1, 4, 12, 13, 14, 10, 15, 16, 17, 18, 19, 20, 21, 22, 23, 24, 25, 26, 27, 28, 29, 30, 31, 32, 33, 34, 35, 36, 37, 38, 39, 40, 41, 42, 43, 44, 45, 46, 47, 48, 49, 50, 51, 52, 53, 54, 55, 56, 57, 58, 59, 60, 61, 62, 63, 64, 65, 66, 67, 68, 69, 70, 71, 72, 73, 74, 75, 76, 77, 78, 79, 80, 81, 82, 83, 84, 85, 86, 87, 88, 89, 90, 91, 92, 93, 94, 95, 96, 97, 98, 99, 100, 101, 102, 103, 104, 105, 106, 107, 108, 109, 110, 111, 112, 113, 114, 115, 116, 117, 118, 119, 120, 121, 122, 123, 124] (by decide +kernel) (by decide +kernel)
set_option maxRecDepth 20000 in
theorem gX4_read_X4_stands : GoodIn wsX4_read (wsV RX4 33 RX4 yX4_stands wsX4_stands) := goodIn_app (goodIn_of _ (by decide +kernel)) ggX4_read_X4_stands
theorem dX4_read_0 : decode cX4_read 0 = .ok (.aload_n 0, 1) := by decide +kernel
theorem dX4_read_1 : decode cX4_read 1 = .ok (.getfield 12, 3) := by decide +kernel
theorem dX4_read_4 : decode cX4_read 4 = .ok (.iconst 0, 1) := by decide +kernel
theorem dX4_read_5 : decode cX4_read 5 = .ok (.putfield 26, 3) := by decide +kernel
theorem dX4_read_8 : decode cX4_read 8 = .ok (.aload_n 0, 1) := by decide +kernel
theorem dX4_read_9 : decode cX4_read 9 = .ok (.iconst 0, 1) := by decide +kernel
theorem dX4_read_10 : decode cX4_read 10 = .ok (.putfield 27, 3) := by decide +kernel
theorem dX4_read_13 : decode cX4_read 13 = .ok (.aload_n 0, 1) := by decide +kernel
theorem dX4_read_14 : decode cX4_read 14 = .ok (.iconst 0, 1) := by decide +kernel
theorem dX4_read_15 : decode cX4_read 15 = .ok (.putfield 30, 3) := by decide +kernel
theorem dX4_read_18 : decode cX4_read 18 = .ok (.iconst 0, 1) := by decide +kernel
theorem dX4_read_19 : decode cX4_read 19 = .ok (.istore_n 1, 1) := by decide +kernel
theorem dX4_read_20 : decode cX4_read 20 = .ok (.iload_n 1, 1) := by decide +kernel
theorem dX4_read_21 : decode cX4_read 21 = .ok (.aload_n 0, 1) := by decide +kernel
theorem dX4_read_22 : decode cX4_read 22 = .ok (.getfield 22, 3) := by decide +kernel
theorem dX4_read_25 : decode cX4_read 25 = .ok (.if_icmp .ge 31, 3) := by decide +kernel
theorem dX4_read_28 : decode cX4_read 28 = .ok (.iload_n 1, 1) := by decide +kernel
theorem dX4_read_29 : decode cX4_read 29 = .ok (.bipush 60, 2) := by decide +kernel
theorem dX4_read_31 : decode cX4_read 31 = .ok (.if_icmp .ge 25, 3) := by decide +kernel
theorem dX4_read_34 : decode cX4_read 34 = .ok (.aload_n 0, 1) := by decide +kernel
theorem dX4_read_35 : decode cX4_read 35 = .ok (.aload_n 0, 1) := by decide +kernel
theorem dX4_read_36 : decode cX4_read 36 = .ok (.getfield 18, 3) := by decide +kernel
theorem dX4_read_39 : decode cX4_read 39 = .ok (.iload_n 1, 1) := by decide +kernel
theorem dX4_read_40 : decode cX4_read 40 = .ok (.iaload, 1) := by decide +kernel
theorem dX4_read_41 : decode cX4_read 41 = .ok (.i2c, 1) := by decide +kernel
theorem dX4_read_42 : decode cX4_read 42 = .ok (.invokevirtual 33, 3) := by decide +kernel
theorem dX4_read_45 : decode cX4_read 45 = .ok (.ifCond .ne 5, 3) := by decide +kernel
theorem dX4_read_48 : decode cX4_read 48 = .ok (.iload_n 1, 1) := by decide +kernel
theorem dX4_read_49 : decode cX4_read 49 = .ok (.ireturn, 1) := by decide +kernel
theorem dX4_read_50 : decode cX4_read 50 = .ok (.iinc 1 1, 3) := by decide +kernel
theorem dX4_read_53 : decode cX4_read 53 = .ok (.goto (-33), 3) := by decide +kernel
theorem dX4_read_56 : decode cX4_read 56 = .ok (.aload_n 0, 1) := by decide +kernel
theorem dX4_read_57 : decode cX4_read 57 = .ok (.getfield 27, 3) := by decide +kernel
theorem dX4_read_60 : decode cX4_read 60 = .ok (.iconst 3, 1) := by decide +kernel
theorem dX4_read_61 : decode cX4_read 61 = .ok (.if_icmp .ne 8, 3) := by decide +kernel
theorem dX4_read_64 : decode cX4_read 64 = .ok (.bipush (-6), 2) := by decide +kernel
theorem dX4_read_66 : decode cX4_read 66 = .ok (.goto 7, 3) := by decide +kernel
theorem dX4_read_69 : decode cX4_read 69 = .ok (.aload_n 0, 1) := by decide +kernel
theorem dX4_read_70 : decode cX4_read 70 = .ok (.getfield 22, 3) := by decide +kernel
theorem dX4_read_73 : decode cX4_read 73 = .ok (.ireturn, 1) := by decide +kernel
set_option maxRecDepth 20000 in
theorem ggX4_stands_X4_betweenStands : GoodIn wsX4_stands wsX4_betweenStands := goodIn_r _ [8, 1, 3, 110, 111, 112, 113, 114] (by decide +kernel) (by decide +kernel)
set_option maxRecDepth 20000 in
theorem gX4_stands_X4_betweenStands : GoodIn wsX4_stands (wsV RX4 37 RX4 yX4_betweenStands wsX4_betweenStands) := goodIn_app (goodIn_of _ (by decide +kernel)) ggX4_stands_X4_betweenStands
set_option maxRecDepth 20000 in
theorem ggX4_stands_J0_indexOf_0f7a4 : GoodIn wsX4_stands wsJ0_indexOf_0f7a4 := goodIn_r _ [13, 14, 15, 16, 12, 17, 18, 19, 20, 21, 22, 23, 24, 25, 26, 27, 28, 29, 30, 31, 32, 33, 34, 35, 36, 37, 38, 39, 40, 41, 42, 43, 44, 45, 46, 47, 48, 49, 50, 51, 52, 53, 54, 55, 56, 57, 58, 59, 60, 61, 62, 63, 64, 65, 66, 67, 68, 69, 70, 71, 72, 73, 74, 75, 76, 77, 78, 79, 80, 81, 82, 83, 84, 85, 86, 87, 88, 89, 90, 91, 92, 93, 94, 95, 96, 97] (by decide +kernel) (by decide +kernel)
set_option maxRecDepth 20000 in
theorem gX4_stands_J0_indexOf_0f7a4 : GoodIn wsX4_stands (wsV RX4 42 RJ0 yJ0_indexOf_0f7a4 wsJ0_indexOf_0f7a4) := goodIn_app (goodIn_of _ (by decide +kernel)) ggX4_stands_J0_indexOf_0f7a4
set_option maxRecDepth 20000 in
theorem ggX4_stands_X5_add : GoodIn wsX4_stands wsX5_add := goodIn_r _ [102, 103, 104, 105, 115, 116, 117] (by decide +kernel) (by decide +kernel)
set_option maxRecDepth 20000 in
theorem gX4_stands_X5_add : GoodIn wsX4_stands (wsV RX4 48 RX5 yX5_add wsX5_add) := goodIn_app (goodIn_of _ (by decide +kernel)) ggX4_stands_X5_add
set_option maxRecDepth 20000 in
theorem ggX4_stands_X4_letterStands : GoodIn wsX4_stands wsX4_letterStands := goodIn_r _ [109, 3, 1, 9, 10, 11, 12, 13, 14, 15, 16, 17, 18, 19, 20, 21, 22, 23, 24, 25, 26, 27, 28, 29, 30, 31, 32, 33, 34, 35, 36, 37, 38, 39, 40, 41, 42, 43, 44, 45, 46, 47, 48, 49, 50, 51, 52, 53, 54, 55, 56, 57, 58, 59, 60, 61, 62, 63, 64, 65, 66, 67, 68, 69, 70, 71, 72, 73, 74, 75, 76, 77, 78, 79, 80, 81, 82, 83, 84, 85, 86, 87, 88, 89, 90, 91, 92, 93, 94, 95, 96, 97, 110, 111, 112, 113, 114] (by decide +kernel) (by decide +kernel)
set_option maxRecDepth 20000 in
theorem gX4_stands_X4_letterStands : GoodIn wsX4_stands (wsV RX4 52 RX4 yX4_letterStands wsX4_letterStands) := goodIn_app (goodIn_of _ (by decide +kernel)) ggX4_stands_X4_letterStands
theorem dX4_stands_0 : decode cX4_stands 0 = .ok (.aload_n 0, 1) := by decide +kernel
theorem dX4_stands_1 : decode cX4_stands 1 = .ok (.getfield 27, 3) := by decide +kernel
theorem dX4_stands_4 : decode cX4_stands 4 = .ok (.iconst 3, 1) := by decide +kernel
theorem dX4_stands_5 : decode cX4_stands 5 = .ok (.if_icmp .ne 9, 3) := by decide +kernel
theorem dX4_stands_8 : decode cX4_stands 8 = .ok (.aload_n 0, 1) := by decide +kernel
theorem dX4_stands_9 : decode cX4_stands 9 = .ok (.iload_n 1, 1) := by decide +kernel
theorem dX4_stands_10 : decode cX4_stands 10 = .ok (.invokevirtual 37, 3) := by decide +kernel
theorem dX4_stands_13 : decode cX4_stands 13 = .ok (.ireturn, 1) := by decide +kernel
theorem dX4_stands_14 : decode cX4_stands 14 = .ok (.aload_n 0, 1) := by decide +kernel
theorem dX4_stands_15 : decode cX4_stands 15 = .ok (.getfield 27, 3) := by decide +kernel
theorem dX4_stands_18 : decode cX4_stands 18 = .ok (.ifCond .ne 16, 3) := by decide +kernel
theorem dX4_stands_21 : decode cX4_stands 21 = .ok (.iload_n 1, 1) := by decide +kernel
theorem dX4_stands_22 : decode cX4_stands 22 = .ok (.bipush 45, 2) := by decide +kernel
theorem dX4_stands_24 : decode cX4_stands 24 = .ok (.if_icmp .ne 10, 3) := by decide +kernel
theorem dX4_stands_27 : decode cX4_stands 27 = .ok (.aload_n 0, 1) := by decide +kernel
theorem dX4_stands_28 : decode cX4_stands 28 = .ok (.iconst 2, 1) := by decide +kernel
theorem dX4_stands_29 : decode cX4_stands 29 = .ok (.putfield 27, 3) := by decide +kernel
theorem dX4_stands_32 : decode cX4_stands 32 = .ok (.iconst 1, 1) := by decide +kernel
theorem dX4_stands_33 : decode cX4_stands 33 = .ok (.ireturn, 1) := by decide +kernel
theorem dX4_stands_34 : decode cX4_stands 34 = .ok (.aload_n 0, 1) := by decide +kernel
theorem dX4_stands_35 : decode cX4_stands 35 = .ok (.getfield 27, 3) := by decide +kernel
theorem dX4_stands_38 : decode cX4_stands 38 = .ok (.ifCond .eq 36, 3) := by decide +kernel
theorem dX4_stands_41 : decode cX4_stands 41 = .ok (.ldc 40, 2) := by decide +kernel
theorem dX4_stands_43 : decode cX4_stands 43 = .ok (.iload_n 1, 1) := by decide +kernel
theorem dX4_stands_44 : decode cX4_stands 44 = .ok (.invokevirtual 42, 3) := by decide +kernel
theorem dX4_stands_47 : decode cX4_stands 47 = .ok (.ifCond .lt 27, 3) := by decide +kernel
theorem dX4_stands_50 : decode cX4_stands 50 = .ok (.aload_n 0, 1) := by decide +kernel
theorem dX4_stands_51 : decode cX4_stands 51 = .ok (.getfield 12, 3) := by decide +kernel
theorem dX4_stands_54 : decode cX4_stands 54 = .ok (.aload_n 0, 1) := by decide +kernel
theorem dX4_stands_55 : decode cX4_stands 55 = .ok (.getfield 30, 3) := by decide +kernel
theorem dX4_stands_58 : decode cX4_stands 58 = .ok (.ldc 40, 2) := by decide +kernel
theorem dX4_stands_60 : decode cX4_stands 60 = .ok (.iload_n 1, 1) := by decide +kernel
theorem dX4_stands_61 : decode cX4_stands 61 = .ok (.invokevirtual 42, 3) := by decide +kernel
theorem dX4_stands_64 : decode cX4_stands 64 = .ok (.invokevirtual 48, 3) := by decide +kernel
theorem dX4_stands_67 : decode cX4_stands 67 = .ok (.aload_n 0, 1) := by decide +kernel
theorem dX4_stands_68 : decode cX4_stands 68 = .ok (.iconst 3, 1) := by decide +kernel
theorem dX4_stands_69 : decode cX4_stands 69 = .ok (.putfield 27, 3) := by decide +kernel
theorem dX4_stands_72 : decode cX4_stands 72 = .ok (.iconst 1, 1) := by decide +kernel
theorem dX4_stands_73 : decode cX4_stands 73 = .ok (.ireturn, 1) := by decide +kernel
theorem dX4_stands_74 : decode cX4_stands 74 = .ok (.aload_n 0, 1) := by decide +kernel
theorem dX4_stands_75 : decode cX4_stands 75 = .ok (.getfield 27, 3) := by decide +kernel
theorem dX4_stands_78 : decode cX4_stands 78 = .ok (.iconst 2, 1) := by decide +kernel
theorem dX4_stands_79 : decode cX4_stands 79 = .ok (.if_icmp .eq 15, 3) := by decide +kernel
theorem dX4_stands_82 : decode cX4_stands 82 = .ok (.aload_n 0, 1) := by decide +kernel
theorem dX4_stands_83 : decode cX4_stands 83 = .ok (.iload_n 1, 1) := by decide +kernel
theorem dX4_stands_84 : decode cX4_stands 84 = .ok (.invokevirtual 52, 3) := by decide +kernel
theorem dX4_stands_87 : decode cX4_stands 87 = .ok (.ifCond .eq 7, 3) := by decide +kernel
theorem dX4_stands_90 : decode cX4_stands 90 = .ok (.iconst 1, 1) := by decide +kernel
theorem dX4_stands_91 : decode cX4_stands 91 = .ok (.goto 4, 3) := by decide +kernel
theorem dX4_stands_94 : decode cX4_stands 94 = .ok (.iconst 0, 1) := by decide +kernel
theorem dX4_stands_95 : decode cX4_stands 95 = .ok (.ireturn, 1) := by decide +kernel
theorem dX4_betweenStands_0 : decode cX4_betweenStands 0 = .ok (.iload_n 1, 1) := by decide +kernel
theorem dX4_betweenStands_1 : decode cX4_betweenStands 1 = .ok (.bipush 59, 2) := by decide +kernel
theorem dX4_betweenStands_3 : decode cX4_betweenStands 3 = .ok (.if_icmp .eq 5, 3) := by decide +kernel
theorem dX4_betweenStands_6 : decode cX4_betweenStands 6 = .ok (.iconst 0, 1) := by decide +kernel
theorem dX4_betweenStands_7 : decode cX4_betweenStands 7 = .ok (.ireturn, 1) := by decide +kernel
theorem dX4_betweenStands_8 : decode cX4_betweenStands 8 = .ok (.aload_n 0, 1) := by decide +kernel
theorem dX4_betweenStands_9 : decode cX4_betweenStands 9 = .ok (.iconst 0, 1) := by decide +kernel
theorem dX4_betweenStands_10 : decode cX4_betweenStands 10 = .ok (.putfield 27, 3) := by decide +kernel
theorem dX4_betweenStands_13 : decode cX4_betweenStands 13 = .ok (.aload_n 0, 1) := by decide +kernel
theorem dX4_betweenStands_14 : decode cX4_betweenStands 14 = .ok (.iconst 0, 1) := by decide +kernel
theorem dX4_betweenStands_15 : decode cX4_betweenStands 15 = .ok (.putfield 30, 3) := by decide +kernel
theorem dX4_betweenStands_18 : decode cX4_betweenStands 18 = .ok (.iconst 1, 1) := by decide +kernel
theorem dX4_betweenStands_19 : decode cX4_betweenStands 19 = .ok (.ireturn, 1) := by decide +kernel
set_option maxRecDepth 20000 in
theorem ggX4_letterStands_J0_indexOf_0f7a4 : GoodIn wsX4_letterStands wsJ0_indexOf_0f7a4 := goodIn_r _ [7, 8, 9, 10, 6, 11, 12, 13, 14, 15, 16, 17, 18, 19, 20, 21, 22, 23, 24, 25, 26, 27, 28, 29, 30, 31, 32, 33, 34, 35, 36, 37, 38, 39, 40, 41, 42, 43, 44, 45, 46, 47, 48, 49, 50, 51, 52, 53, 54, 55, 56, 57, 58, 59, 60, 61, 62, 63, 64, 65, 66, 67, 68, 69, 70, 71, 72, 73, 74, 75, 76, 77, 78, 79, 80, 81, 82, 83, 84, 85, 86, 87, 88, 89, 90, 91] (by decide +kernel) (by decide +kernel)
set_option maxRecDepth 20000 in
theorem gX4_letterStands_J0_indexOf_0f7a4 : GoodIn wsX4_letterStands (wsV RX4 42 RJ0 yJ0_indexOf_0f7a4 wsJ0_indexOf_0f7a4) := goodIn_app (goodIn_of _ (by decide +kernel)) ggX4_letterStands_J0_indexOf_0f7a4
theorem dX4_letterStands_0 : decode cX4_letterStands 0 = .ok (.ldc 55, 2) := by decide +kernel
theorem dX4_letterStands_2 : decode cX4_letterStands 2 = .ok (.iload_n 1, 1) := by decide +kernel
theorem dX4_letterStands_3 : decode cX4_letterStands 3 = .ok (.invokevirtual 42, 3) := by decide +kernel
theorem dX4_letterStands_6 : decode cX4_letterStands 6 = .ok (.istore_n 2, 1) := by decide +kernel
theorem dX4_letterStands_7 : decode cX4_letterStands 7 = .ok (.iload_n 2, 1) := by decide +kernel
theorem dX4_letterStands_8 : decode cX4_letterStands 8 = .ok (.ifCond .ge 5, 3) := by decide +kernel
theorem dX4_letterStands_11 : decode cX4_letterStands 11 = .ok (.iconst 0, 1) := by decide +kernel
theorem dX4_letterStands_12 : decode cX4_letterStands 12 = .ok (.ireturn, 1) := by decide +kernel
theorem dX4_letterStands_13 : decode cX4_letterStands 13 = .ok (.iconst 1, 1) := by decide +kernel
theorem dX4_letterStands_14 : decode cX4_letterStands 14 = .ok (.iload_n 2, 1) := by decide +kernel
theorem dX4_letterStands_15 : decode cX4_letterStands 15 = .ok (.ishl, 1) := by decide +kernel
theorem dX4_letterStands_16 : decode cX4_letterStands 16 = .ok (.istore_n 3, 1) := by decide +kernel
theorem dX4_letterStands_17 : decode cX4_letterStands 17 = .ok (.aload_n 0, 1) := by decide +kernel
theorem dX4_letterStands_18 : decode cX4_letterStands 18 = .ok (.getfield 30, 3) := by decide +kernel
theorem dX4_letterStands_21 : decode cX4_letterStands 21 = .ok (.iload_n 3, 1) := by decide +kernel
theorem dX4_letterStands_22 : decode cX4_letterStands 22 = .ok (.iand, 1) := by decide +kernel
theorem dX4_letterStands_23 : decode cX4_letterStands 23 = .ok (.ifCond .eq 5, 3) := by decide +kernel
theorem dX4_letterStands_26 : decode cX4_letterStands 26 = .ok (.iconst 0, 1) := by decide +kernel
theorem dX4_letterStands_27 : decode cX4_letterStands 27 = .ok (.ireturn, 1) := by decide +kernel
theorem dX4_letterStands_28 : decode cX4_letterStands 28 = .ok (.aload_n 0, 1) := by decide +kernel
theorem dX4_letterStands_29 : decode cX4_letterStands 29 = .ok (.dup, 1) := by decide +kernel
theorem dX4_letterStands_30 : decode cX4_letterStands 30 = .ok (.getfield 30, 3) := by decide +kernel
theorem dX4_letterStands_33 : decode cX4_letterStands 33 = .ok (.iload_n 3, 1) := by decide +kernel
theorem dX4_letterStands_34 : decode cX4_letterStands 34 = .ok (.ior, 1) := by decide +kernel
theorem dX4_letterStands_35 : decode cX4_letterStands 35 = .ok (.putfield 30, 3) := by decide +kernel
theorem dX4_letterStands_38 : decode cX4_letterStands 38 = .ok (.aload_n 0, 1) := by decide +kernel
theorem dX4_letterStands_39 : decode cX4_letterStands 39 = .ok (.iconst 1, 1) := by decide +kernel
theorem dX4_letterStands_40 : decode cX4_letterStands 40 = .ok (.putfield 27, 3) := by decide +kernel
theorem dX4_letterStands_43 : decode cX4_letterStands 43 = .ok (.iconst 1, 1) := by decide +kernel
theorem dX4_letterStands_44 : decode cX4_letterStands 44 = .ok (.ireturn, 1) := by decide +kernel
theorem dX5_init_0 : decode cX5_init 0 = .ok (.aload_n 0, 1) := by decide +kernel
theorem dX5_init_1 : decode cX5_init 1 = .ok (.invokespecial 3, 3) := by decide +kernel
theorem dX5_init_4 : decode cX5_init 4 = .ok (.aload_n 0, 1) := by decide +kernel
theorem dX5_init_5 : decode cX5_init 5 = .ok (.bipush 20, 2) := by decide +kernel
theorem dX5_init_7 : decode cX5_init 7 = .ok (.newarray .int, 2) := by decide +kernel
theorem dX5_init_9 : decode cX5_init 9 = .ok (.putfield 9, 3) := by decide +kernel
theorem dX5_init_12 : decode cX5_init 12 = .ok (.aload_n 0, 1) := by decide +kernel
theorem dX5_init_13 : decode cX5_init 13 = .ok (.bipush 20, 2) := by decide +kernel
theorem dX5_init_15 : decode cX5_init 15 = .ok (.newarray .int, 2) := by decide +kernel
theorem dX5_init_17 : decode cX5_init 17 = .ok (.putfield 15, 3) := by decide +kernel
theorem dX5_init_20 : decode cX5_init 20 = .ok (.return_, 1) := by decide +kernel
theorem dX5_add_0 : decode cX5_add 0 = .ok (.aload_n 0, 1) := by decide +kernel
theorem dX5_add_1 : decode cX5_add 1 = .ok (.getfield 18, 3) := by decide +kernel
theorem dX5_add_4 : decode cX5_add 4 = .ok (.bipush 20, 2) := by decide +kernel
theorem dX5_add_6 : decode cX5_add 6 = .ok (.if_icmp .lt 4, 3) := by decide +kernel
theorem dX5_add_9 : decode cX5_add 9 = .ok (.return_, 1) := by decide +kernel
theorem dX5_add_10 : decode cX5_add 10 = .ok (.aload_n 0, 1) := by decide +kernel
theorem dX5_add_11 : decode cX5_add 11 = .ok (.getfield 9, 3) := by decide +kernel
theorem dX5_add_14 : decode cX5_add 14 = .ok (.aload_n 0, 1) := by decide +kernel
theorem dX5_add_15 : decode cX5_add 15 = .ok (.getfield 18, 3) := by decide +kernel
theorem dX5_add_18 : decode cX5_add 18 = .ok (.iload_n 1, 1) := by decide +kernel
theorem dX5_add_19 : decode cX5_add 19 = .ok (.iastore, 1) := by decide +kernel
theorem dX5_add_20 : decode cX5_add 20 = .ok (.aload_n 0, 1) := by decide +kernel
theorem dX5_add_21 : decode cX5_add 21 = .ok (.getfield 15, 3) := by decide +kernel
theorem dX5_add_24 : decode cX5_add 24 = .ok (.aload_n 0, 1) := by decide +kernel
theorem dX5_add_25 : decode cX5_add 25 = .ok (.getfield 18, 3) := by decide +kernel
theorem dX5_add_28 : decode cX5_add 28 = .ok (.iload_n 2, 1) := by decide +kernel
theorem dX5_add_29 : decode cX5_add 29 = .ok (.iastore, 1) := by decide +kernel
theorem dX5_add_30 : decode cX5_add 30 = .ok (.aload_n 0, 1) := by decide +kernel
theorem dX5_add_31 : decode cX5_add 31 = .ok (.dup, 1) := by decide +kernel
theorem dX5_add_32 : decode cX5_add 32 = .ok (.getfield 18, 3) := by decide +kernel
theorem dX5_add_35 : decode cX5_add 35 = .ok (.iconst 1, 1) := by decide +kernel
theorem dX5_add_36 : decode cX5_add 36 = .ok (.iadd, 1) := by decide +kernel
theorem dX5_add_37 : decode cX5_add 37 = .ok (.putfield 18, 3) := by decide +kernel
theorem dX5_add_40 : decode cX5_add 40 = .ok (.return_, 1) := by decide +kernel
theorem dX5_take_0 : decode cX5_take 0 = .ok (.aload_n 1, 1) := by decide +kernel
theorem dX5_take_1 : decode cX5_take 1 = .ok (.getfield 9, 3) := by decide +kernel
theorem dX5_take_4 : decode cX5_take 4 = .ok (.iconst 0, 1) := by decide +kernel
theorem dX5_take_5 : decode cX5_take 5 = .ok (.aload_n 0, 1) := by decide +kernel
theorem dX5_take_6 : decode cX5_take 6 = .ok (.getfield 9, 3) := by decide +kernel
theorem dX5_take_9 : decode cX5_take 9 = .ok (.iconst 0, 1) := by decide +kernel
theorem dX5_take_10 : decode cX5_take 10 = .ok (.bipush 20, 2) := by decide +kernel
theorem dX5_take_12 : decode cX5_take 12 = .ok (.invokestatic 22, 3) := by decide +kernel
theorem dX5_take_15 : decode cX5_take 15 = .ok (.aload_n 1, 1) := by decide +kernel
theorem dX5_take_16 : decode cX5_take 16 = .ok (.getfield 15, 3) := by decide +kernel
theorem dX5_take_19 : decode cX5_take 19 = .ok (.iconst 0, 1) := by decide +kernel
theorem dX5_take_20 : decode cX5_take 20 = .ok (.aload_n 0, 1) := by decide +kernel
theorem dX5_take_21 : decode cX5_take 21 = .ok (.getfield 15, 3) := by decide +kernel
theorem dX5_take_24 : decode cX5_take 24 = .ok (.iconst 0, 1) := by decide +kernel
theorem dX5_take_25 : decode cX5_take 25 = .ok (.bipush 20, 2) := by decide +kernel
theorem dX5_take_27 : decode cX5_take 27 = .ok (.invokestatic 22, 3) := by decide +kernel
theorem dX5_take_30 : decode cX5_take 30 = .ok (.aload_n 0, 1) := by decide +kernel
theorem dX5_take_31 : decode cX5_take 31 = .ok (.aload_n 1, 1) := by decide +kernel
theorem dX5_take_32 : decode cX5_take 32 = .ok (.getfield 18, 3) := by decide +kernel
theorem dX5_take_35 : decode cX5_take 35 = .ok (.putfield 18, 3) := by decide +kernel
theorem dX5_take_38 : decode cX5_take 38 = .ok (.return_, 1) := by decide +kernel
theorem dX5_has_0 : decode cX5_has 0 = .ok (.iconst 0, 1) := by decide +kernel
theorem dX5_has_1 : decode cX5_has 1 = .ok (.istore_n 2, 1) := by decide +kernel
theorem dX5_has_2 : decode cX5_has 2 = .ok (.iload_n 2, 1) := by decide +kernel
theorem dX5_has_3 : decode cX5_has 3 = .ok (.aload_n 0, 1) := by decide +kernel
theorem dX5_has_4 : decode cX5_has 4 = .ok (.getfield 18, 3) := by decide +kernel
theorem dX5_has_7 : decode cX5_has 7 = .ok (.if_icmp .ge 27, 3) := by decide +kernel
theorem dX5_has_10 : decode cX5_has 10 = .ok (.iload_n 2, 1) := by decide +kernel
theorem dX5_has_11 : decode cX5_has 11 = .ok (.bipush 20, 2) := by decide +kernel
theorem dX5_has_13 : decode cX5_has 13 = .ok (.if_icmp .ge 21, 3) := by decide +kernel
theorem dX5_has_16 : decode cX5_has 16 = .ok (.aload_n 0, 1) := by decide +kernel
theorem dX5_has_17 : decode cX5_has 17 = .ok (.getfield 9, 3) := by decide +kernel
theorem dX5_has_20 : decode cX5_has 20 = .ok (.iload_n 2, 1) := by decide +kernel
theorem dX5_has_21 : decode cX5_has 21 = .ok (.iaload, 1) := by decide +kernel
theorem dX5_has_22 : decode cX5_has 22 = .ok (.iload_n 1, 1) := by decide +kernel
theorem dX5_has_23 : decode cX5_has 23 = .ok (.if_icmp .ne 5, 3) := by decide +kernel
theorem dX5_has_26 : decode cX5_has 26 = .ok (.iconst 1, 1) := by decide +kernel
theorem dX5_has_27 : decode cX5_has 27 = .ok (.ireturn, 1) := by decide +kernel
theorem dX5_has_28 : decode cX5_has 28 = .ok (.iinc 2 1, 3) := by decide +kernel
theorem dX5_has_31 : decode cX5_has 31 = .ok (.goto (-29), 3) := by decide +kernel
theorem dX5_has_34 : decode cX5_has 34 = .ok (.iconst 0, 1) := by decide +kernel
theorem dX5_has_35 : decode cX5_has 35 = .ok (.ireturn, 1) := by decide +kernel
set_option maxRecDepth 20000 in
theorem ggX5_neighbours_J6_bitCount_0f7a4 : GoodIn wsX5_neighbours wsJ6_bitCount_0f7a4 := goodIn_r _ [6, 7, 8, 9] (by decide +kernel) (by decide +kernel)
set_option maxRecDepth 20000 in
theorem gX5_neighbours_J6_bitCount_0f7a4 : GoodIn wsX5_neighbours (va_wsS RX5 28 yJ6_bitCount_0f7a4 wsJ6_bitCount_0f7a4) := goodIn_app (goodIn_of _ (by decide +kernel)) ggX5_neighbours_J6_bitCount_0f7a4
theorem dX5_neighbours_0 : decode cX5_neighbours 0 = .ok (.iconst 0, 1) := by decide +kernel
theorem dX5_neighbours_1 : decode cX5_neighbours 1 = .ok (.istore_n 2, 1) := by decide +kernel
theorem dX5_neighbours_2 : decode cX5_neighbours 2 = .ok (.iconst 0, 1) := by decide +kernel
theorem dX5_neighbours_3 : decode cX5_neighbours 3 = .ok (.istore_n 3, 1) := by decide +kernel
theorem dX5_neighbours_4 : decode cX5_neighbours 4 = .ok (.iload_n 3, 1) := by decide +kernel
theorem dX5_neighbours_5 : decode cX5_neighbours 5 = .ok (.aload_n 0, 1) := by decide +kernel
theorem dX5_neighbours_6 : decode cX5_neighbours 6 = .ok (.getfield 18, 3) := by decide +kernel
theorem dX5_neighbours_9 : decode cX5_neighbours 9 = .ok (.if_icmp .ge 33, 3) := by decide +kernel
theorem dX5_neighbours_12 : decode cX5_neighbours 12 = .ok (.iload_n 3, 1) := by decide +kernel
theorem dX5_neighbours_13 : decode cX5_neighbours 13 = .ok (.bipush 20, 2) := by decide +kernel
theorem dX5_neighbours_15 : decode cX5_neighbours 15 = .ok (.if_icmp .ge 27, 3) := by decide +kernel
theorem dX5_neighbours_18 : decode cX5_neighbours 18 = .ok (.aload_n 0, 1) := by decide +kernel
theorem dX5_neighbours_19 : decode cX5_neighbours 19 = .ok (.getfield 9, 3) := by decide +kernel
theorem dX5_neighbours_22 : decode cX5_neighbours 22 = .ok (.iload_n 3, 1) := by decide +kernel
theorem dX5_neighbours_23 : decode cX5_neighbours 23 = .ok (.iaload, 1) := by decide +kernel
theorem dX5_neighbours_24 : decode cX5_neighbours 24 = .ok (.iload_n 1, 1) := by decide +kernel
theorem dX5_neighbours_25 : decode cX5_neighbours 25 = .ok (.ixor, 1) := by decide +kernel
theorem dX5_neighbours_26 : decode cX5_neighbours 26 = .ok (.invokestatic 28, 3) := by decide +kernel
theorem dX5_neighbours_29 : decode cX5_neighbours 29 = .ok (.iconst 1, 1) := by decide +kernel
theorem dX5_neighbours_30 : decode cX5_neighbours 30 = .ok (.if_icmp .ne 6, 3) := by decide +kernel
theorem dX5_neighbours_33 : decode cX5_neighbours 33 = .ok (.iinc 2 1, 3) := by decide +kernel
theorem dX5_neighbours_36 : decode cX5_neighbours 36 = .ok (.iinc 3 1, 3) := by decide +kernel
theorem dX5_neighbours_39 : decode cX5_neighbours 39 = .ok (.goto (-35), 3) := by decide +kernel
theorem dX5_neighbours_42 : decode cX5_neighbours 42 = .ok (.iload_n 2, 1) := by decide +kernel
theorem dX5_neighbours_43 : decode cX5_neighbours 43 = .ok (.ireturn, 1) := by decide +kernel
theorem dX5_pairsBy_0 : decode cX5_pairsBy 0 = .ok (.iconst 0, 1) := by decide +kernel
theorem dX5_pairsBy_1 : decode cX5_pairsBy 1 = .ok (.istore_n 3, 1) := by decide +kernel
theorem dX5_pairsBy_2 : decode cX5_pairsBy 2 = .ok (.iconst 0, 1) := by decide +kernel
theorem dX5_pairsBy_3 : decode cX5_pairsBy 3 = .ok (.istore 4, 2) := by decide +kernel
theorem dX5_pairsBy_5 : decode cX5_pairsBy 5 = .ok (.iload 4, 2) := by decide +kernel
theorem dX5_pairsBy_7 : decode cX5_pairsBy 7 = .ok (.aload_n 0, 1) := by decide +kernel
theorem dX5_pairsBy_8 : decode cX5_pairsBy 8 = .ok (.getfield 18, 3) := by decide +kernel
theorem dX5_pairsBy_11 : decode cX5_pairsBy 11 = .ok (.if_icmp .ge 80, 3) := by decide +kernel
theorem dX5_pairsBy_14 : decode cX5_pairsBy 14 = .ok (.iload 4, 2) := by decide +kernel
theorem dX5_pairsBy_16 : decode cX5_pairsBy 16 = .ok (.bipush 20, 2) := by decide +kernel
