theorem dX7_could_172 : decode cX7_could 172 = .ok (.goto (-70), 3) := by decide +kernel
theorem dX7_could_175 : decode cX7_could 175 = .ok (.iload 4, 2) := by decide +kernel
theorem dX7_could_177 : decode cX7_could 177 = .ok (.ifCond .ne 8, 3) := by decide +kernel
theorem dX7_could_180 : decode cX7_could 180 = .ok (.iload 6, 2) := by decide +kernel
theorem dX7_could_182 : decode cX7_could 182 = .ok (.goto 16, 3) := by decide +kernel
theorem dX7_could_185 : decode cX7_could 185 = .ok (.iload 4, 2) := by decide +kernel
theorem dX7_could_187 : decode cX7_could 187 = .ok (.iconst 1, 1) := by decide +kernel
theorem dX7_could_188 : decode cX7_could 188 = .ok (.if_icmp .ne 8, 3) := by decide +kernel
theorem dX7_could_191 : decode cX7_could 191 = .ok (.iload 7, 2) := by decide +kernel
theorem dX7_could_193 : decode cX7_could 193 = .ok (.goto 5, 3) := by decide +kernel
theorem dX7_could_196 : decode cX7_could 196 = .ok (.iload 8, 2) := by decide +kernel
theorem dX7_could_198 : decode cX7_could 198 = .ok (.ireturn, 1) := by decide +kernel
set_option maxRecDepth 20000 in
theorem ggX7_any_X7_isMeaning : GoodIn wsX7_any wsX7_isMeaning := goodIn_r _ [6, 7, 8, 5, 9] (by decide +kernel) (by decide +kernel)
set_option maxRecDepth 20000 in
theorem gX7_any_X7_isMeaning : GoodIn wsX7_any (va_wsS RX7 139 yX7_isMeaning wsX7_isMeaning) := goodIn_app (goodIn_of _ (by decide +kernel)) ggX7_any_X7_isMeaning
set_option maxRecDepth 20000 in
theorem ggX7_any_X7_isDegree : GoodIn wsX7_any wsX7_isDegree := goodIn_r _ [12, 7, 8, 5, 9] (by decide +kernel) (by decide +kernel)
set_option maxRecDepth 20000 in
theorem gX7_any_X7_isDegree : GoodIn wsX7_any (va_wsS RX7 136 yX7_isDegree wsX7_isDegree) := goodIn_app (goodIn_of _ (by decide +kernel)) ggX7_any_X7_isDegree
set_option maxRecDepth 20000 in
theorem ggX7_any_X7_timeAs : GoodIn wsX7_any wsX7_timeAs := goodIn_r _ [16, 1, 2, 17, 18, 19, 5, 20, 21, 22, 23, 24, 25, 26, 27, 28, 29, 30, 31, 32, 33, 34, 35, 36, 37, 38, 39, 40, 41, 42, 43, 44, 45, 46, 47, 48, 49, 50, 51, 52, 53, 54, 55, 56, 57, 58, 59, 60, 61, 62, 63, 64, 65, 66, 67, 68, 69, 70, 71, 72, 73, 74, 75, 76, 77, 78] (by decide +kernel) (by decide +kernel)
set_option maxRecDepth 20000 in
theorem gX7_any_X7_timeAs : GoodIn wsX7_any (wsV RX7 142 RX7 yX7_timeAs wsX7_timeAs) := goodIn_app (goodIn_of _ (by decide +kernel)) ggX7_any_X7_timeAs
set_option maxRecDepth 20000 in
theorem ggX7_any_X7_timeOf : GoodIn wsX7_any wsX7_timeOf := goodIn_r _ [20, 21, 22, 2, 23, 24, 25, 26, 5, 27, 28, 29, 30, 31, 32, 33, 34, 35, 36, 37, 38, 39, 40, 41, 42, 43, 44, 45, 46, 47, 48, 49, 50, 51, 52, 53, 54, 55, 56, 57, 58, 59, 60, 61, 62, 63, 64, 65, 66, 67, 68, 69, 70, 71, 72, 73, 74, 75, 76, 77, 78] (by decide +kernel) (by decide +kernel)
set_option maxRecDepth 20000 in
theorem gX7_any_X7_timeOf : GoodIn wsX7_any (wsV RX7 132 RX7 yX7_timeOf wsX7_timeOf) := goodIn_app (goodIn_of _ (by decide +kernel)) ggX7_any_X7_timeOf
theorem dX7_any_0 : decode cX7_any 0 = .ok (.iload_n 1, 1) := by decide +kernel
theorem dX7_any_1 : decode cX7_any 1 = .ok (.invokestatic 139, 3) := by decide +kernel
theorem dX7_any_4 : decode cX7_any 4 = .ok (.ifCond .eq 10, 3) := by decide +kernel
theorem dX7_any_7 : decode cX7_any 7 = .ok (.iload_n 2, 1) := by decide +kernel
theorem dX7_any_8 : decode cX7_any 8 = .ok (.invokestatic 136, 3) := by decide +kernel
theorem dX7_any_11 : decode cX7_any 11 = .ok (.ifCond .ne 6, 3) := by decide +kernel
theorem dX7_any_14 : decode cX7_any 14 = .ok (.bipush (-2), 2) := by decide +kernel
theorem dX7_any_16 : decode cX7_any 16 = .ok (.ireturn, 1) := by decide +kernel
theorem dX7_any_17 : decode cX7_any 17 = .ok (.aload_n 0, 1) := by decide +kernel
theorem dX7_any_18 : decode cX7_any 18 = .ok (.iconst 1, 1) := by decide +kernel
theorem dX7_any_19 : decode cX7_any 19 = .ok (.iload_n 2, 1) := by decide +kernel
theorem dX7_any_20 : decode cX7_any 20 = .ok (.iload_n 1, 1) := by decide +kernel
theorem dX7_any_21 : decode cX7_any 21 = .ok (.invokevirtual 142, 3) := by decide +kernel
theorem dX7_any_24 : decode cX7_any 24 = .ok (.istore_n 3, 1) := by decide +kernel
theorem dX7_any_25 : decode cX7_any 25 = .ok (.bipush (-6), 2) := by decide +kernel
theorem dX7_any_27 : decode cX7_any 27 = .ok (.istore 4, 2) := by decide +kernel
theorem dX7_any_29 : decode cX7_any 29 = .ok (.aload_n 0, 1) := by decide +kernel
theorem dX7_any_30 : decode cX7_any 30 = .ok (.getfield 7, 3) := by decide +kernel
theorem dX7_any_33 : decode cX7_any 33 = .ok (.iconst 1, 1) := by decide +kernel
theorem dX7_any_34 : decode cX7_any 34 = .ok (.iaload, 1) := by decide +kernel
theorem dX7_any_35 : decode cX7_any 35 = .ok (.iconst 1, 1) := by decide +kernel
theorem dX7_any_36 : decode cX7_any 36 = .ok (.iadd, 1) := by decide +kernel
theorem dX7_any_37 : decode cX7_any 37 = .ok (.istore 5, 2) := by decide +kernel
theorem dX7_any_39 : decode cX7_any 39 = .ok (.iload 5, 2) := by decide +kernel
theorem dX7_any_41 : decode cX7_any 41 = .ok (.bipush 100, 2) := by decide +kernel
theorem dX7_any_43 : decode cX7_any 43 = .ok (.if_icmp .gt 43, 3) := by decide +kernel
theorem dX7_any_46 : decode cX7_any 46 = .ok (.iload 4, 2) := by decide +kernel
theorem dX7_any_48 : decode cX7_any 48 = .ok (.ifCond .ge 38, 3) := by decide +kernel
theorem dX7_any_51 : decode cX7_any 51 = .ok (.aload_n 0, 1) := by decide +kernel
theorem dX7_any_52 : decode cX7_any 52 = .ok (.iconst 0, 1) := by decide +kernel
theorem dX7_any_53 : decode cX7_any 53 = .ok (.iload 5, 2) := by decide +kernel
theorem dX7_any_55 : decode cX7_any 55 = .ok (.iload_n 2, 1) := by decide +kernel
theorem dX7_any_56 : decode cX7_any 56 = .ok (.aload_n 0, 1) := by decide +kernel
theorem dX7_any_57 : decode cX7_any 57 = .ok (.getfield 19, 3) := by decide +kernel
theorem dX7_any_60 : decode cX7_any 60 = .ok (.bipush 10, 2) := by decide +kernel
theorem dX7_any_62 : decode cX7_any 62 = .ok (.iaload, 1) := by decide +kernel
theorem dX7_any_63 : decode cX7_any 63 = .ok (.iload_n 1, 1) := by decide +kernel
theorem dX7_any_64 : decode cX7_any 64 = .ok (.invokevirtual 132, 3) := by decide +kernel
theorem dX7_any_67 : decode cX7_any 67 = .ok (.iload_n 3, 1) := by decide +kernel
theorem dX7_any_68 : decode cX7_any 68 = .ok (.if_icmp .ge 8, 3) := by decide +kernel
theorem dX7_any_71 : decode cX7_any 71 = .ok (.iload 5, 2) := by decide +kernel
theorem dX7_any_73 : decode cX7_any 73 = .ok (.goto 5, 3) := by decide +kernel
theorem dX7_any_76 : decode cX7_any 76 = .ok (.bipush (-6), 2) := by decide +kernel
theorem dX7_any_78 : decode cX7_any 78 = .ok (.istore 4, 2) := by decide +kernel
theorem dX7_any_80 : decode cX7_any 80 = .ok (.iinc 5 1, 3) := by decide +kernel
theorem dX7_any_83 : decode cX7_any 83 = .ok (.goto (-44), 3) := by decide +kernel
theorem dX7_any_86 : decode cX7_any 86 = .ok (.iload 4, 2) := by decide +kernel
theorem dX7_any_88 : decode cX7_any 88 = .ok (.ireturn, 1) := by decide +kernel
theorem dX7_waysFrom_0 : decode cX7_waysFrom 0 = .ok (.lconst 1, 1) := by decide +kernel
theorem dX7_waysFrom_1 : decode cX7_waysFrom 1 = .ok (.lstore_n 2, 1) := by decide +kernel
theorem dX7_waysFrom_2 : decode cX7_waysFrom 2 = .ok (.lconst 0, 1) := by decide +kernel
theorem dX7_waysFrom_3 : decode cX7_waysFrom 3 = .ok (.lstore 4, 2) := by decide +kernel
theorem dX7_waysFrom_5 : decode cX7_waysFrom 5 = .ok (.iconst 0, 1) := by decide +kernel
theorem dX7_waysFrom_6 : decode cX7_waysFrom 6 = .ok (.istore 6, 2) := by decide +kernel
theorem dX7_waysFrom_8 : decode cX7_waysFrom 8 = .ok (.iload 6, 2) := by decide +kernel
theorem dX7_waysFrom_10 : decode cX7_waysFrom 10 = .ok (.iload_n 1, 1) := by decide +kernel
theorem dX7_waysFrom_11 : decode cX7_waysFrom 11 = .ok (.if_icmp .gt 73, 3) := by decide +kernel
theorem dX7_waysFrom_14 : decode cX7_waysFrom 14 = .ok (.lload 4, 2) := by decide +kernel
theorem dX7_waysFrom_16 : decode cX7_waysFrom 16 = .ok (.iload 6, 2) := by decide +kernel
theorem dX7_waysFrom_18 : decode cX7_waysFrom 18 = .ok (.iload_n 0, 1) := by decide +kernel
theorem dX7_waysFrom_19 : decode cX7_waysFrom 19 = .ok (.if_icmp .lt 7, 3) := by decide +kernel
theorem dX7_waysFrom_22 : decode cX7_waysFrom 22 = .ok (.lload_n 2, 1) := by decide +kernel
theorem dX7_waysFrom_23 : decode cX7_waysFrom 23 = .ok (.goto 4, 3) := by decide +kernel
theorem dX7_waysFrom_26 : decode cX7_waysFrom 26 = .ok (.lconst 0, 1) := by decide +kernel
theorem dX7_waysFrom_27 : decode cX7_waysFrom 27 = .ok (.ladd, 1) := by decide +kernel
theorem dX7_waysFrom_28 : decode cX7_waysFrom 28 = .ok (.lstore 4, 2) := by decide +kernel
theorem dX7_waysFrom_30 : decode cX7_waysFrom 30 = .ok (.iload 6, 2) := by decide +kernel
theorem dX7_waysFrom_32 : decode cX7_waysFrom 32 = .ok (.iload_n 1, 1) := by decide +kernel
theorem dX7_waysFrom_33 : decode cX7_waysFrom 33 = .ok (.if_icmp .ge 45, 3) := by decide +kernel
theorem dX7_waysFrom_36 : decode cX7_waysFrom 36 = .ok (.lload_n 2, 1) := by decide +kernel
theorem dX7_waysFrom_37 : decode cX7_waysFrom 37 = .ok (.iload 6, 2) := by decide +kernel
theorem dX7_waysFrom_39 : decode cX7_waysFrom 39 = .ok (.iconst 1, 1) := by decide +kernel
theorem dX7_waysFrom_40 : decode cX7_waysFrom 40 = .ok (.iadd, 1) := by decide +kernel
theorem dX7_waysFrom_41 : decode cX7_waysFrom 41 = .ok (.i2l, 1) := by decide +kernel
theorem dX7_waysFrom_42 : decode cX7_waysFrom 42 = .ok (.ldiv, 1) := by decide +kernel
theorem dX7_waysFrom_43 : decode cX7_waysFrom 43 = .ok (.lstore 7, 2) := by decide +kernel
theorem dX7_waysFrom_45 : decode cX7_waysFrom 45 = .ok (.lload_n 2, 1) := by decide +kernel
theorem dX7_waysFrom_46 : decode cX7_waysFrom 46 = .ok (.iload 6, 2) := by decide +kernel
theorem dX7_waysFrom_48 : decode cX7_waysFrom 48 = .ok (.iconst 1, 1) := by decide +kernel
theorem dX7_waysFrom_49 : decode cX7_waysFrom 49 = .ok (.iadd, 1) := by decide +kernel
theorem dX7_waysFrom_50 : decode cX7_waysFrom 50 = .ok (.i2l, 1) := by decide +kernel
theorem dX7_waysFrom_51 : decode cX7_waysFrom 51 = .ok (.lrem, 1) := by decide +kernel
theorem dX7_waysFrom_52 : decode cX7_waysFrom 52 = .ok (.lstore 9, 2) := by decide +kernel
theorem dX7_waysFrom_54 : decode cX7_waysFrom 54 = .ok (.lload 7, 2) := by decide +kernel
theorem dX7_waysFrom_56 : decode cX7_waysFrom 56 = .ok (.iload_n 1, 1) := by decide +kernel
theorem dX7_waysFrom_57 : decode cX7_waysFrom 57 = .ok (.iload 6, 2) := by decide +kernel
theorem dX7_waysFrom_59 : decode cX7_waysFrom 59 = .ok (.isub, 1) := by decide +kernel
theorem dX7_waysFrom_60 : decode cX7_waysFrom 60 = .ok (.i2l, 1) := by decide +kernel
theorem dX7_waysFrom_61 : decode cX7_waysFrom 61 = .ok (.lmul, 1) := by decide +kernel
theorem dX7_waysFrom_62 : decode cX7_waysFrom 62 = .ok (.lload 9, 2) := by decide +kernel
theorem dX7_waysFrom_64 : decode cX7_waysFrom 64 = .ok (.iload_n 1, 1) := by decide +kernel
theorem dX7_waysFrom_65 : decode cX7_waysFrom 65 = .ok (.iload 6, 2) := by decide +kernel
theorem dX7_waysFrom_67 : decode cX7_waysFrom 67 = .ok (.isub, 1) := by decide +kernel
theorem dX7_waysFrom_68 : decode cX7_waysFrom 68 = .ok (.i2l, 1) := by decide +kernel
theorem dX7_waysFrom_69 : decode cX7_waysFrom 69 = .ok (.lmul, 1) := by decide +kernel
theorem dX7_waysFrom_70 : decode cX7_waysFrom 70 = .ok (.iload 6, 2) := by decide +kernel
theorem dX7_waysFrom_72 : decode cX7_waysFrom 72 = .ok (.iconst 1, 1) := by decide +kernel
theorem dX7_waysFrom_73 : decode cX7_waysFrom 73 = .ok (.iadd, 1) := by decide +kernel
theorem dX7_waysFrom_74 : decode cX7_waysFrom 74 = .ok (.i2l, 1) := by decide +kernel
theorem dX7_waysFrom_75 : decode cX7_waysFrom 75 = .ok (.ldiv, 1) := by decide +kernel
theorem dX7_waysFrom_76 : decode cX7_waysFrom 76 = .ok (.ladd, 1) := by decide +kernel
theorem dX7_waysFrom_77 : decode cX7_waysFrom 77 = .ok (.lstore_n 2, 1) := by decide +kernel
theorem dX7_waysFrom_78 : decode cX7_waysFrom 78 = .ok (.iinc 6 1, 3) := by decide +kernel
theorem dX7_waysFrom_81 : decode cX7_waysFrom 81 = .ok (.goto (-73), 3) := by decide +kernel
theorem dX7_waysFrom_84 : decode cX7_waysFrom 84 = .ok (.lload 4, 2) := by decide +kernel
theorem dX7_waysFrom_86 : decode cX7_waysFrom 86 = .ok (.lreturn, 1) := by decide +kernel
set_option maxRecDepth 20000 in
theorem ggX7_chance_X7_in : GoodIn wsX7_chance wsX7_in := goodIn_r _ [5] (by decide +kernel) (by decide +kernel)
set_option maxRecDepth 20000 in
theorem gX7_chance_X7_in : GoodIn wsX7_chance (va_wsS RX7 60 yX7_in wsX7_in) := goodIn_app (goodIn_of _ (by decide +kernel)) ggX7_chance_X7_in
set_option maxRecDepth 20000 in
theorem ggX7_chance_X7_isTwo : GoodIn wsX7_chance wsX7_isTwo := goodIn_r _ [8, 2, 3, 4, 5] (by decide +kernel) (by decide +kernel)
set_option maxRecDepth 20000 in
theorem gX7_chance_X7_isTwo : GoodIn wsX7_chance (va_wsS RX7 66 yX7_isTwo wsX7_isTwo) := goodIn_app (goodIn_of _ (by decide +kernel)) ggX7_chance_X7_isTwo
set_option maxRecDepth 20000 in
theorem ggX7_chance_X7_waysFrom : GoodIn wsX7_chance wsX7_waysFrom := goodIn_r _ [11] (by decide +kernel) (by decide +kernel)
set_option maxRecDepth 20000 in
theorem gX7_chance_X7_waysFrom : GoodIn wsX7_chance (va_wsS RX7 167 yX7_waysFrom wsX7_waysFrom) := goodIn_app (goodIn_of _ (by decide +kernel)) ggX7_chance_X7_waysFrom
set_option maxRecDepth 20000 in
theorem ggX7_chance_X7_term : GoodIn wsX7_chance wsX7_term := goodIn_r _ [14] (by decide +kernel) (by decide +kernel)
set_option maxRecDepth 20000 in
theorem gX7_chance_X7_term : GoodIn wsX7_chance (va_wsS RX7 160 yX7_term wsX7_term) := goodIn_app (goodIn_of _ (by decide +kernel)) ggX7_chance_X7_term
theorem dX7_chance_0 : decode cX7_chance 0 = .ok (.iload_n 2, 1) := by decide +kernel
theorem dX7_chance_1 : decode cX7_chance 1 = .ok (.iconst 1, 1) := by decide +kernel
theorem dX7_chance_2 : decode cX7_chance 2 = .ok (.bipush 40, 2) := by decide +kernel
theorem dX7_chance_4 : decode cX7_chance 4 = .ok (.invokestatic 60, 3) := by decide +kernel
theorem dX7_chance_7 : decode cX7_chance 7 = .ok (.ifCond .eq 19, 3) := by decide +kernel
theorem dX7_chance_10 : decode cX7_chance 10 = .ok (.iload_n 1, 1) := by decide +kernel
theorem dX7_chance_11 : decode cX7_chance 11 = .ok (.iconst 0, 1) := by decide +kernel
theorem dX7_chance_12 : decode cX7_chance 12 = .ok (.iload_n 2, 1) := by decide +kernel
theorem dX7_chance_13 : decode cX7_chance 13 = .ok (.invokestatic 60, 3) := by decide +kernel
theorem dX7_chance_16 : decode cX7_chance 16 = .ok (.ifCond .eq 10, 3) := by decide +kernel
theorem dX7_chance_19 : decode cX7_chance 19 = .ok (.iload_n 3, 1) := by decide +kernel
theorem dX7_chance_20 : decode cX7_chance 20 = .ok (.invokestatic 66, 3) := by decide +kernel
theorem dX7_chance_23 : decode cX7_chance 23 = .ok (.ifCond .ne 7, 3) := by decide +kernel
theorem dX7_chance_26 : decode cX7_chance 26 = .ok (.ldc2_w 152, 3) := by decide +kernel
theorem dX7_chance_29 : decode cX7_chance 29 = .ok (.lreturn, 1) := by decide +kernel
theorem dX7_chance_30 : decode cX7_chance 30 = .ok (.iload_n 1, 1) := by decide +kernel
theorem dX7_chance_31 : decode cX7_chance 31 = .ok (.iload_n 2, 1) := by decide +kernel
theorem dX7_chance_32 : decode cX7_chance 32 = .ok (.invokestatic 167, 3) := by decide +kernel
theorem dX7_chance_35 : decode cX7_chance 35 = .ok (.lconst 1, 1) := by decide +kernel
theorem dX7_chance_36 : decode cX7_chance 36 = .ok (.iload_n 2, 1) := by decide +kernel
theorem dX7_chance_37 : decode cX7_chance 37 = .ok (.lshl, 1) := by decide +kernel
theorem dX7_chance_38 : decode cX7_chance 38 = .ok (.iload_n 3, 1) := by decide +kernel
theorem dX7_chance_39 : decode cX7_chance 39 = .ok (.invokestatic 160, 3) := by decide +kernel
theorem dX7_chance_42 : decode cX7_chance 42 = .ok (.lreturn, 1) := by decide +kernel
set_option maxRecDepth 20000 in
theorem ggX7_pairs_X7_in : GoodIn wsX7_pairs wsX7_in := goodIn_r _ [5] (by decide +kernel) (by decide +kernel)
set_option maxRecDepth 20000 in
theorem gX7_pairs_X7_in : GoodIn wsX7_pairs (va_wsS RX7 60 yX7_in wsX7_in) := goodIn_app (goodIn_of _ (by decide +kernel)) ggX7_pairs_X7_in
set_option maxRecDepth 20000 in
theorem ggX7_pairs_X7_waysFrom : GoodIn wsX7_pairs wsX7_waysFrom := goodIn_r _ [8] (by decide +kernel) (by decide +kernel)
set_option maxRecDepth 20000 in
theorem gX7_pairs_X7_waysFrom : GoodIn wsX7_pairs (va_wsS RX7 167 yX7_waysFrom wsX7_waysFrom) := goodIn_app (goodIn_of _ (by decide +kernel)) ggX7_pairs_X7_waysFrom
theorem dX7_pairs_0 : decode cX7_pairs 0 = .ok (.iload_n 1, 1) := by decide +kernel
theorem dX7_pairs_1 : decode cX7_pairs 1 = .ok (.bipush 6, 2) := by decide +kernel
theorem dX7_pairs_3 : decode cX7_pairs 3 = .ok (.bipush 10, 2) := by decide +kernel
theorem dX7_pairs_5 : decode cX7_pairs 5 = .ok (.invokestatic 60, 3) := by decide +kernel
theorem dX7_pairs_8 : decode cX7_pairs 8 = .ok (.ifCond .eq 14, 3) := by decide +kernel
theorem dX7_pairs_11 : decode cX7_pairs 11 = .ok (.iload_n 2, 1) := by decide +kernel
theorem dX7_pairs_12 : decode cX7_pairs 12 = .ok (.iconst 1, 1) := by decide +kernel
theorem dX7_pairs_13 : decode cX7_pairs 13 = .ok (.sipush 200, 3) := by decide +kernel
theorem dX7_pairs_16 : decode cX7_pairs 16 = .ok (.invokestatic 60, 3) := by decide +kernel
theorem dX7_pairs_19 : decode cX7_pairs 19 = .ok (.ifCond .ne 6, 3) := by decide +kernel
theorem dX7_pairs_22 : decode cX7_pairs 22 = .ok (.bipush (-2), 2) := by decide +kernel
theorem dX7_pairs_24 : decode cX7_pairs 24 = .ok (.ireturn, 1) := by decide +kernel
theorem dX7_pairs_25 : decode cX7_pairs 25 = .ok (.iconst 1, 1) := by decide +kernel
theorem dX7_pairs_26 : decode cX7_pairs 26 = .ok (.istore_n 3, 1) := by decide +kernel
theorem dX7_pairs_27 : decode cX7_pairs 27 = .ok (.iload_n 3, 1) := by decide +kernel
theorem dX7_pairs_28 : decode cX7_pairs 28 = .ok (.bipush 40, 2) := by decide +kernel
theorem dX7_pairs_30 : decode cX7_pairs 30 = .ok (.if_icmp .gt 60, 3) := by decide +kernel
theorem dX7_pairs_33 : decode cX7_pairs 33 = .ok (.lconst 1, 1) := by decide +kernel
theorem dX7_pairs_34 : decode cX7_pairs 34 = .ok (.iload_n 3, 1) := by decide +kernel
theorem dX7_pairs_35 : decode cX7_pairs 35 = .ok (.lshl, 1) := by decide +kernel
theorem dX7_pairs_36 : decode cX7_pairs 36 = .ok (.lstore 4, 2) := by decide +kernel
theorem dX7_pairs_38 : decode cX7_pairs 38 = .ok (.lload 4, 2) := by decide +kernel
theorem dX7_pairs_40 : decode cX7_pairs 40 = .ok (.ldc2_w 90, 3) := by decide +kernel
theorem dX7_pairs_43 : decode cX7_pairs 43 = .ok (.ldiv, 1) := by decide +kernel
theorem dX7_pairs_44 : decode cX7_pairs 44 = .ok (.iload_n 2, 1) := by decide +kernel
theorem dX7_pairs_45 : decode cX7_pairs 45 = .ok (.i2l, 1) := by decide +kernel
theorem dX7_pairs_46 : decode cX7_pairs 46 = .ok (.lmul, 1) := by decide +kernel
theorem dX7_pairs_47 : decode cX7_pairs 47 = .ok (.lload 4, 2) := by decide +kernel
theorem dX7_pairs_49 : decode cX7_pairs 49 = .ok (.ldc2_w 90, 3) := by decide +kernel
theorem dX7_pairs_52 : decode cX7_pairs 52 = .ok (.lrem, 1) := by decide +kernel
theorem dX7_pairs_53 : decode cX7_pairs 53 = .ok (.iload_n 2, 1) := by decide +kernel
theorem dX7_pairs_54 : decode cX7_pairs 54 = .ok (.i2l, 1) := by decide +kernel
theorem dX7_pairs_55 : decode cX7_pairs 55 = .ok (.lmul, 1) := by decide +kernel
theorem dX7_pairs_56 : decode cX7_pairs 56 = .ok (.ldc2_w 90, 3) := by decide +kernel
theorem dX7_pairs_59 : decode cX7_pairs 59 = .ok (.ldiv, 1) := by decide +kernel
theorem dX7_pairs_60 : decode cX7_pairs 60 = .ok (.ladd, 1) := by decide +kernel
theorem dX7_pairs_61 : decode cX7_pairs 61 = .ok (.lstore 6, 2) := by decide +kernel
theorem dX7_pairs_63 : decode cX7_pairs 63 = .ok (.iload_n 3, 1) := by decide +kernel
theorem dX7_pairs_64 : decode cX7_pairs 64 = .ok (.iload_n 1, 1) := by decide +kernel
theorem dX7_pairs_65 : decode cX7_pairs 65 = .ok (.imul, 1) := by decide +kernel
theorem dX7_pairs_66 : decode cX7_pairs 66 = .ok (.bipush 9, 2) := by decide +kernel
theorem dX7_pairs_68 : decode cX7_pairs 68 = .ok (.iadd, 1) := by decide +kernel
theorem dX7_pairs_69 : decode cX7_pairs 69 = .ok (.bipush 10, 2) := by decide +kernel
theorem dX7_pairs_71 : decode cX7_pairs 71 = .ok (.idiv, 1) := by decide +kernel
theorem dX7_pairs_72 : decode cX7_pairs 72 = .ok (.iload_n 3, 1) := by decide +kernel
theorem dX7_pairs_73 : decode cX7_pairs 73 = .ok (.invokestatic 167, 3) := by decide +kernel
theorem dX7_pairs_76 : decode cX7_pairs 76 = .ok (.lload 6, 2) := by decide +kernel
theorem dX7_pairs_78 : decode cX7_pairs 78 = .ok (.lcmp, 1) := by decide +kernel
theorem dX7_pairs_79 : decode cX7_pairs 79 = .ok (.ifCond .gt 5, 3) := by decide +kernel
theorem dX7_pairs_82 : decode cX7_pairs 82 = .ok (.iload_n 3, 1) := by decide +kernel
theorem dX7_pairs_83 : decode cX7_pairs 83 = .ok (.ireturn, 1) := by decide +kernel
theorem dX7_pairs_84 : decode cX7_pairs 84 = .ok (.iinc 3 1, 3) := by decide +kernel
theorem dX7_pairs_87 : decode cX7_pairs 87 = .ok (.goto (-60), 3) := by decide +kernel
theorem dX7_pairs_90 : decode cX7_pairs 90 = .ok (.bipush (-6), 2) := by decide +kernel
theorem dX7_pairs_92 : decode cX7_pairs 92 = .ok (.ireturn, 1) := by decide +kernel
set_option maxRecDepth 20000 in
theorem ggX7_say_X7_in : GoodIn wsX7_say wsX7_in := goodIn_r _ [6] (by decide +kernel) (by decide +kernel)
set_option maxRecDepth 20000 in
theorem gX7_say_X7_in : GoodIn wsX7_say (va_wsS RX7 60 yX7_in wsX7_in) := goodIn_app (goodIn_of _ (by decide +kernel)) ggX7_say_X7_in
theorem dX7_say_0 : decode cX7_say 0 = .ok (.iload_n 1, 1) := by decide +kernel
theorem dX7_say_1 : decode cX7_say 1 = .ok (.bipush 33, 2) := by decide +kernel
theorem dX7_say_3 : decode cX7_say 3 = .ok (.bipush 126, 2) := by decide +kernel
theorem dX7_say_5 : decode cX7_say 5 = .ok (.invokestatic 60, 3) := by decide +kernel
theorem dX7_say_8 : decode cX7_say 8 = .ok (.ifCond .ne 6, 3) := by decide +kernel
theorem dX7_say_11 : decode cX7_say 11 = .ok (.bipush (-2), 2) := by decide +kernel
theorem dX7_say_13 : decode cX7_say 13 = .ok (.ireturn, 1) := by decide +kernel
theorem dX7_say_14 : decode cX7_say 14 = .ok (.aload_n 0, 1) := by decide +kernel
theorem dX7_say_15 : decode cX7_say 15 = .ok (.getfield 171, 3) := by decide +kernel
theorem dX7_say_18 : decode cX7_say 18 = .ok (.bipush 60, 2) := by decide +kernel
theorem dX7_say_20 : decode cX7_say 20 = .ok (.if_icmp .ne 6, 3) := by decide +kernel
theorem dX7_say_23 : decode cX7_say 23 = .ok (.bipush (-4), 2) := by decide +kernel
theorem dX7_say_25 : decode cX7_say 25 = .ok (.ireturn, 1) := by decide +kernel
theorem dX7_say_26 : decode cX7_say 26 = .ok (.aload_n 0, 1) := by decide +kernel
theorem dX7_say_27 : decode cX7_say 27 = .ok (.getfield 22, 3) := by decide +kernel
theorem dX7_say_30 : decode cX7_say 30 = .ok (.aload_n 0, 1) := by decide +kernel
theorem dX7_say_31 : decode cX7_say 31 = .ok (.getfield 171, 3) := by decide +kernel
theorem dX7_say_34 : decode cX7_say 34 = .ok (.iload_n 1, 1) := by decide +kernel
theorem dX7_say_35 : decode cX7_say 35 = .ok (.iastore, 1) := by decide +kernel
theorem dX7_say_36 : decode cX7_say 36 = .ok (.aload_n 0, 1) := by decide +kernel
theorem dX7_say_37 : decode cX7_say 37 = .ok (.dup, 1) := by decide +kernel
theorem dX7_say_38 : decode cX7_say 38 = .ok (.getfield 171, 3) := by decide +kernel
theorem dX7_say_41 : decode cX7_say 41 = .ok (.iconst 1, 1) := by decide +kernel
theorem dX7_say_42 : decode cX7_say 42 = .ok (.iadd, 1) := by decide +kernel
theorem dX7_say_43 : decode cX7_say 43 = .ok (.putfield 171, 3) := by decide +kernel
theorem dX7_say_46 : decode cX7_say 46 = .ok (.aload_n 0, 1) := by decide +kernel
theorem dX7_say_47 : decode cX7_say 47 = .ok (.getfield 171, 3) := by decide +kernel
theorem dX7_say_50 : decode cX7_say 50 = .ok (.ireturn, 1) := by decide +kernel
theorem dX7_wipe_0 : decode cX7_wipe 0 = .ok (.aload_n 0, 1) := by decide +kernel
theorem dX7_wipe_1 : decode cX7_wipe 1 = .ok (.getfield 171, 3) := by decide +kernel
theorem dX7_wipe_4 : decode cX7_wipe 4 = .ok (.istore_n 1, 1) := by decide +kernel
theorem dX7_wipe_5 : decode cX7_wipe 5 = .ok (.aload_n 0, 1) := by decide +kernel
theorem dX7_wipe_6 : decode cX7_wipe 6 = .ok (.iconst 0, 1) := by decide +kernel
theorem dX7_wipe_7 : decode cX7_wipe 7 = .ok (.putfield 171, 3) := by decide +kernel
theorem dX7_wipe_10 : decode cX7_wipe 10 = .ok (.iload_n 1, 1) := by decide +kernel
theorem dX7_wipe_11 : decode cX7_wipe 11 = .ok (.ireturn, 1) := by decide +kernel
theorem dX7_letter_0 : decode cX7_letter 0 = .ok (.iload_n 0, 1) := by decide +kernel
theorem dX7_letter_1 : decode cX7_letter 1 = .ok (.bipush 115, 2) := by decide +kernel
theorem dX7_letter_3 : decode cX7_letter 3 = .ok (.if_icmp .ne 7, 3) := by decide +kernel
theorem dX7_letter_6 : decode cX7_letter 6 = .ok (.iconst 0, 1) := by decide +kernel
theorem dX7_letter_7 : decode cX7_letter 7 = .ok (.goto 35, 3) := by decide +kernel
theorem dX7_letter_10 : decode cX7_letter 10 = .ok (.iload_n 0, 1) := by decide +kernel
theorem dX7_letter_11 : decode cX7_letter 11 = .ok (.bipush 114, 2) := by decide +kernel
theorem dX7_letter_13 : decode cX7_letter 13 = .ok (.if_icmp .ne 7, 3) := by decide +kernel
theorem dX7_letter_16 : decode cX7_letter 16 = .ok (.iconst 1, 1) := by decide +kernel
theorem dX7_letter_17 : decode cX7_letter 17 = .ok (.goto 25, 3) := by decide +kernel
theorem dX7_letter_20 : decode cX7_letter 20 = .ok (.iload_n 0, 1) := by decide +kernel
theorem dX7_letter_21 : decode cX7_letter 21 = .ok (.bipush 116, 2) := by decide +kernel
theorem dX7_letter_23 : decode cX7_letter 23 = .ok (.if_icmp .ne 7, 3) := by decide +kernel
theorem dX7_letter_26 : decode cX7_letter 26 = .ok (.iconst 2, 1) := by decide +kernel
theorem dX7_letter_27 : decode cX7_letter 27 = .ok (.goto 15, 3) := by decide +kernel
theorem dX7_letter_30 : decode cX7_letter 30 = .ok (.iload_n 0, 1) := by decide +kernel
theorem dX7_letter_31 : decode cX7_letter 31 = .ok (.bipush 110, 2) := by decide +kernel
theorem dX7_letter_33 : decode cX7_letter 33 = .ok (.if_icmp .ne 7, 3) := by decide +kernel
theorem dX7_letter_36 : decode cX7_letter 36 = .ok (.iconst 3, 1) := by decide +kernel
theorem dX7_letter_37 : decode cX7_letter 37 = .ok (.goto 5, 3) := by decide +kernel
theorem dX7_letter_40 : decode cX7_letter 40 = .ok (.bipush (-6), 2) := by decide +kernel
theorem dX7_letter_42 : decode cX7_letter 42 = .ok (.ireturn, 1) := by decide +kernel
theorem dX7_end_0 : decode cX7_end 0 = .ok (.iload_n 0, 1) := by decide +kernel
theorem dX7_end_1 : decode cX7_end 1 = .ok (.bipush 62, 2) := by decide +kernel
theorem dX7_end_3 : decode cX7_end 3 = .ok (.if_icmp .ne 7, 3) := by decide +kernel
theorem dX7_end_6 : decode cX7_end 6 = .ok (.iconst 0, 1) := by decide +kernel
theorem dX7_end_7 : decode cX7_end 7 = .ok (.goto 25, 3) := by decide +kernel
theorem dX7_end_10 : decode cX7_end 10 = .ok (.iload_n 0, 1) := by decide +kernel
theorem dX7_end_11 : decode cX7_end 11 = .ok (.bipush 60, 2) := by decide +kernel
theorem dX7_end_13 : decode cX7_end 13 = .ok (.if_icmp .ne 7, 3) := by decide +kernel
theorem dX7_end_16 : decode cX7_end 16 = .ok (.iconst 1, 1) := by decide +kernel
theorem dX7_end_17 : decode cX7_end 17 = .ok (.goto 15, 3) := by decide +kernel
theorem dX7_end_20 : decode cX7_end 20 = .ok (.iload_n 0, 1) := by decide +kernel
theorem dX7_end_21 : decode cX7_end 21 = .ok (.bipush 61, 2) := by decide +kernel
theorem dX7_end_23 : decode cX7_end 23 = .ok (.if_icmp .ne 7, 3) := by decide +kernel
theorem dX7_end_26 : decode cX7_end 26 = .ok (.iconst 2, 1) := by decide +kernel
theorem dX7_end_27 : decode cX7_end 27 = .ok (.goto 5, 3) := by decide +kernel
theorem dX7_end_30 : decode cX7_end 30 = .ok (.bipush (-6), 2) := by decide +kernel
theorem dX7_end_32 : decode cX7_end 32 = .ok (.ireturn, 1) := by decide +kernel
set_option maxRecDepth 20000 in
theorem ggX7_faultOf_X7_letter : GoodIn wsX7_faultOf wsX7_letter := goodIn_r _ [6] (by decide +kernel) (by decide +kernel)
set_option maxRecDepth 20000 in
theorem gX7_faultOf_X7_letter : GoodIn wsX7_faultOf (va_wsS RX7 174 yX7_letter wsX7_letter) := goodIn_app (goodIn_of _ (by decide +kernel)) ggX7_faultOf_X7_letter
set_option maxRecDepth 20000 in
theorem ggX7_faultOf_X7_end : GoodIn wsX7_faultOf wsX7_end := goodIn_r _ [9] (by decide +kernel) (by decide +kernel)
set_option maxRecDepth 20000 in
theorem gX7_faultOf_X7_end : GoodIn wsX7_faultOf (va_wsS RX7 177 yX7_end wsX7_end) := goodIn_app (goodIn_of _ (by decide +kernel)) ggX7_faultOf_X7_end
theorem dX7_faultOf_0 : decode cX7_faultOf 0 = .ok (.iconst 0, 1) := by decide +kernel
theorem dX7_faultOf_1 : decode cX7_faultOf 1 = .ok (.istore_n 1, 1) := by decide +kernel
theorem dX7_faultOf_2 : decode cX7_faultOf 2 = .ok (.iconst 0, 1) := by decide +kernel
theorem dX7_faultOf_3 : decode cX7_faultOf 3 = .ok (.istore_n 2, 1) := by decide +kernel
theorem dX7_faultOf_4 : decode cX7_faultOf 4 = .ok (.iconst 0, 1) := by decide +kernel
theorem dX7_faultOf_5 : decode cX7_faultOf 5 = .ok (.istore_n 3, 1) := by decide +kernel
theorem dX7_faultOf_6 : decode cX7_faultOf 6 = .ok (.iload_n 3, 1) := by decide +kernel
theorem dX7_faultOf_7 : decode cX7_faultOf 7 = .ok (.aload_n 0, 1) := by decide +kernel
theorem dX7_faultOf_8 : decode cX7_faultOf 8 = .ok (.getfield 171, 3) := by decide +kernel
theorem dX7_faultOf_11 : decode cX7_faultOf 11 = .ok (.if_icmp .ge 128, 3) := by decide +kernel
theorem dX7_faultOf_14 : decode cX7_faultOf 14 = .ok (.aload_n 0, 1) := by decide +kernel
theorem dX7_faultOf_15 : decode cX7_faultOf 15 = .ok (.getfield 22, 3) := by decide +kernel
theorem dX7_faultOf_18 : decode cX7_faultOf 18 = .ok (.iload_n 3, 1) := by decide +kernel
theorem dX7_faultOf_19 : decode cX7_faultOf 19 = .ok (.iaload, 1) := by decide +kernel
theorem dX7_faultOf_20 : decode cX7_faultOf 20 = .ok (.istore 4, 2) := by decide +kernel
theorem dX7_faultOf_22 : decode cX7_faultOf 22 = .ok (.bipush (-6), 2) := by decide +kernel
theorem dX7_faultOf_24 : decode cX7_faultOf 24 = .ok (.istore 5, 2) := by decide +kernel
theorem dX7_faultOf_26 : decode cX7_faultOf 26 = .ok (.iload 4, 2) := by decide +kernel
theorem dX7_faultOf_28 : decode cX7_faultOf 28 = .ok (.invokestatic 174, 3) := by decide +kernel
theorem dX7_faultOf_31 : decode cX7_faultOf 31 = .ok (.istore 6, 2) := by decide +kernel
theorem dX7_faultOf_33 : decode cX7_faultOf 33 = .ok (.iload_n 1, 1) := by decide +kernel
theorem dX7_faultOf_34 : decode cX7_faultOf 34 = .ok (.iconst 2, 1) := by decide +kernel
theorem dX7_faultOf_35 : decode cX7_faultOf 35 = .ok (.if_icmp .ge 30, 3) := by decide +kernel
theorem dX7_faultOf_38 : decode cX7_faultOf 38 = .ok (.iload 6, 2) := by decide +kernel
theorem dX7_faultOf_40 : decode cX7_faultOf 40 = .ok (.ifCond .lt 25, 3) := by decide +kernel
theorem dX7_faultOf_43 : decode cX7_faultOf 43 = .ok (.iload_n 2, 1) := by decide +kernel
theorem dX7_faultOf_44 : decode cX7_faultOf 44 = .ok (.iload 6, 2) := by decide +kernel
theorem dX7_faultOf_46 : decode cX7_faultOf 46 = .ok (.ishr, 1) := by decide +kernel
theorem dX7_faultOf_47 : decode cX7_faultOf 47 = .ok (.iconst 1, 1) := by decide +kernel
theorem dX7_faultOf_48 : decode cX7_faultOf 48 = .ok (.iand, 1) := by decide +kernel
theorem dX7_faultOf_49 : decode cX7_faultOf 49 = .ok (.ifCond .ne 16, 3) := by decide +kernel
theorem dX7_faultOf_52 : decode cX7_faultOf 52 = .ok (.iload_n 2, 1) := by decide +kernel
theorem dX7_faultOf_53 : decode cX7_faultOf 53 = .ok (.iconst 1, 1) := by decide +kernel
theorem dX7_faultOf_54 : decode cX7_faultOf 54 = .ok (.iload 6, 2) := by decide +kernel
theorem dX7_faultOf_56 : decode cX7_faultOf 56 = .ok (.ishl, 1) := by decide +kernel
theorem dX7_faultOf_57 : decode cX7_faultOf 57 = .ok (.ior, 1) := by decide +kernel
theorem dX7_faultOf_58 : decode cX7_faultOf 58 = .ok (.istore_n 2, 1) := by decide +kernel
theorem dX7_faultOf_59 : decode cX7_faultOf 59 = .ok (.iconst 1, 1) := by decide +kernel
theorem dX7_faultOf_60 : decode cX7_faultOf 60 = .ok (.istore 5, 2) := by decide +kernel
theorem dX7_faultOf_62 : decode cX7_faultOf 62 = .ok (.goto 61, 3) := by decide +kernel
theorem dX7_faultOf_65 : decode cX7_faultOf 65 = .ok (.iload_n 1, 1) := by decide +kernel
theorem dX7_faultOf_66 : decode cX7_faultOf 66 = .ok (.ifCond .ne 16, 3) := by decide +kernel
theorem dX7_faultOf_69 : decode cX7_faultOf 69 = .ok (.iload 4, 2) := by decide +kernel
theorem dX7_faultOf_71 : decode cX7_faultOf 71 = .ok (.bipush 45, 2) := by decide +kernel
theorem dX7_faultOf_73 : decode cX7_faultOf 73 = .ok (.if_icmp .ne 9, 3) := by decide +kernel
theorem dX7_faultOf_76 : decode cX7_faultOf 76 = .ok (.iconst 2, 1) := by decide +kernel
theorem dX7_faultOf_77 : decode cX7_faultOf 77 = .ok (.istore 5, 2) := by decide +kernel
theorem dX7_faultOf_79 : decode cX7_faultOf 79 = .ok (.goto 44, 3) := by decide +kernel
theorem dX7_faultOf_82 : decode cX7_faultOf 82 = .ok (.iload_n 1, 1) := by decide +kernel
theorem dX7_faultOf_83 : decode cX7_faultOf 83 = .ok (.iconst 1, 1) := by decide +kernel
theorem dX7_faultOf_84 : decode cX7_faultOf 84 = .ok (.if_icmp .eq 8, 3) := by decide +kernel
theorem dX7_faultOf_87 : decode cX7_faultOf 87 = .ok (.iload_n 1, 1) := by decide +kernel
theorem dX7_faultOf_88 : decode cX7_faultOf 88 = .ok (.iconst 2, 1) := by decide +kernel
theorem dX7_faultOf_89 : decode cX7_faultOf 89 = .ok (.if_icmp .ne 17, 3) := by decide +kernel
theorem dX7_faultOf_92 : decode cX7_faultOf 92 = .ok (.iload 4, 2) := by decide +kernel
theorem dX7_faultOf_94 : decode cX7_faultOf 94 = .ok (.invokestatic 177, 3) := by decide +kernel
theorem dX7_faultOf_97 : decode cX7_faultOf 97 = .ok (.ifCond .lt 9, 3) := by decide +kernel
theorem dX7_faultOf_100 : decode cX7_faultOf 100 = .ok (.iconst 3, 1) := by decide +kernel
theorem dX7_faultOf_101 : decode cX7_faultOf 101 = .ok (.istore 5, 2) := by decide +kernel
theorem dX7_faultOf_103 : decode cX7_faultOf 103 = .ok (.goto 20, 3) := by decide +kernel
theorem dX7_faultOf_106 : decode cX7_faultOf 106 = .ok (.iload_n 1, 1) := by decide +kernel
theorem dX7_faultOf_107 : decode cX7_faultOf 107 = .ok (.iconst 3, 1) := by decide +kernel
theorem dX7_faultOf_108 : decode cX7_faultOf 108 = .ok (.if_icmp .ne 15, 3) := by decide +kernel
theorem dX7_faultOf_111 : decode cX7_faultOf 111 = .ok (.iload 4, 2) := by decide +kernel
theorem dX7_faultOf_113 : decode cX7_faultOf 113 = .ok (.bipush 59, 2) := by decide +kernel
theorem dX7_faultOf_115 : decode cX7_faultOf 115 = .ok (.if_icmp .ne 8, 3) := by decide +kernel
theorem dX7_faultOf_118 : decode cX7_faultOf 118 = .ok (.iconst 0, 1) := by decide +kernel
theorem dX7_faultOf_119 : decode cX7_faultOf 119 = .ok (.istore_n 2, 1) := by decide +kernel
theorem dX7_faultOf_120 : decode cX7_faultOf 120 = .ok (.iconst 0, 1) := by decide +kernel
theorem dX7_faultOf_121 : decode cX7_faultOf 121 = .ok (.istore 5, 2) := by decide +kernel
theorem dX7_faultOf_123 : decode cX7_faultOf 123 = .ok (.iload 5, 2) := by decide +kernel
theorem dX7_faultOf_125 : decode cX7_faultOf 125 = .ok (.ifCond .ge 5, 3) := by decide +kernel
theorem dX7_faultOf_128 : decode cX7_faultOf 128 = .ok (.iload_n 3, 1) := by decide +kernel
theorem dX7_faultOf_129 : decode cX7_faultOf 129 = .ok (.ireturn, 1) := by decide +kernel
theorem dX7_faultOf_130 : decode cX7_faultOf 130 = .ok (.iload 5, 2) := by decide +kernel
theorem dX7_faultOf_132 : decode cX7_faultOf 132 = .ok (.istore_n 1, 1) := by decide +kernel
theorem dX7_faultOf_133 : decode cX7_faultOf 133 = .ok (.iinc 3 1, 3) := by decide +kernel
theorem dX7_faultOf_136 : decode cX7_faultOf 136 = .ok (.goto (-130), 3) := by decide +kernel
theorem dX7_faultOf_139 : decode cX7_faultOf 139 = .ok (.iload_n 1, 1) := by decide +kernel
theorem dX7_faultOf_140 : decode cX7_faultOf 140 = .ok (.iconst 3, 1) := by decide +kernel
theorem dX7_faultOf_141 : decode cX7_faultOf 141 = .ok (.if_icmp .ne 8, 3) := by decide +kernel
theorem dX7_faultOf_144 : decode cX7_faultOf 144 = .ok (.bipush (-6), 2) := by decide +kernel
theorem dX7_faultOf_146 : decode cX7_faultOf 146 = .ok (.goto 7, 3) := by decide +kernel
theorem dX7_faultOf_149 : decode cX7_faultOf 149 = .ok (.aload_n 0, 1) := by decide +kernel
theorem dX7_faultOf_150 : decode cX7_faultOf 150 = .ok (.getfield 171, 3) := by decide +kernel
theorem dX7_faultOf_153 : decode cX7_faultOf 153 = .ok (.ireturn, 1) := by decide +kernel
set_option maxRecDepth 20000 in
theorem ggX7_fault_X7_faultOf : GoodIn wsX7_fault wsX7_faultOf := goodIn_r _ [5, 6, 7, 8, 9, 4, 10, 11, 12, 13, 14, 15, 16, 17, 18, 19, 20, 21, 22, 23, 24, 25, 26, 27, 28, 29, 30, 31, 32, 33, 34, 35, 36] (by decide +kernel) (by decide +kernel)
set_option maxRecDepth 20000 in
theorem gX7_fault_X7_faultOf : GoodIn wsX7_fault (wsV RX7 180 RX7 yX7_faultOf wsX7_faultOf) := goodIn_app (goodIn_of _ (by decide +kernel)) ggX7_fault_X7_faultOf
theorem dX7_fault_0 : decode cX7_fault 0 = .ok (.aload_n 0, 1) := by decide +kernel
theorem dX7_fault_1 : decode cX7_fault 1 = .ok (.invokevirtual 180, 3) := by decide +kernel
theorem dX7_fault_4 : decode cX7_fault 4 = .ok (.ireturn, 1) := by decide +kernel
set_option maxRecDepth 20000 in
theorem ggX7_tries_X7_faultOf : GoodIn wsX7_tries wsX7_faultOf := goodIn_r _ [10, 3, 4, 11, 12, 9, 13, 14, 15, 16, 17, 18, 19, 20, 21, 22, 23, 24, 25, 26, 27, 28, 29, 30, 31, 32, 33, 34, 35, 36, 37, 38, 39] (by decide +kernel) (by decide +kernel)
set_option maxRecDepth 20000 in
theorem gX7_tries_X7_faultOf : GoodIn wsX7_tries (wsV RX7 180 RX7 yX7_faultOf wsX7_faultOf) := goodIn_app (goodIn_of _ (by decide +kernel)) ggX7_tries_X7_faultOf
set_option maxRecDepth 20000 in
theorem ggX7_tries_X7_letter : GoodIn wsX7_tries wsX7_letter := goodIn_r _ [13] (by decide +kernel) (by decide +kernel)
set_option maxRecDepth 20000 in
theorem gX7_tries_X7_letter : GoodIn wsX7_tries (va_wsS RX7 174 yX7_letter wsX7_letter) := goodIn_app (goodIn_of _ (by decide +kernel)) ggX7_tries_X7_letter
set_option maxRecDepth 20000 in
theorem ggX7_tries_X7_end : GoodIn wsX7_tries wsX7_end := goodIn_r _ [16] (by decide +kernel) (by decide +kernel)
set_option maxRecDepth 20000 in
theorem gX7_tries_X7_end : GoodIn wsX7_tries (va_wsS RX7 177 yX7_end wsX7_end) := goodIn_app (goodIn_of _ (by decide +kernel)) ggX7_tries_X7_end
theorem dX7_tries_0 : decode cX7_tries 0 = .ok (.aload_n 0, 1) := by decide +kernel
theorem dX7_tries_1 : decode cX7_tries 1 = .ok (.invokevirtual 180, 3) := by decide +kernel
theorem dX7_tries_4 : decode cX7_tries 4 = .ok (.ifCond .lt 6, 3) := by decide +kernel
theorem dX7_tries_7 : decode cX7_tries 7 = .ok (.bipush (-5), 2) := by decide +kernel
theorem dX7_tries_9 : decode cX7_tries 9 = .ok (.ireturn, 1) := by decide +kernel
theorem dX7_tries_10 : decode cX7_tries 10 = .ok (.aload_n 0, 1) := by decide +kernel
theorem dX7_tries_11 : decode cX7_tries 11 = .ok (.iconst 0, 1) := by decide +kernel
theorem dX7_tries_12 : decode cX7_tries 12 = .ok (.putfield 184, 3) := by decide +kernel
theorem dX7_tries_15 : decode cX7_tries 15 = .ok (.aload_n 0, 1) := by decide +kernel
theorem dX7_tries_16 : decode cX7_tries 16 = .ok (.getfield 25, 3) := by decide +kernel
theorem dX7_tries_19 : decode cX7_tries 19 = .ok (.iconst 0, 1) := by decide +kernel
theorem dX7_tries_20 : decode cX7_tries 20 = .ok (.iconst 0, 1) := by decide +kernel
theorem dX7_tries_21 : decode cX7_tries 21 = .ok (.iastore, 1) := by decide +kernel
theorem dX7_tries_22 : decode cX7_tries 22 = .ok (.iconst 0, 1) := by decide +kernel
theorem dX7_tries_23 : decode cX7_tries 23 = .ok (.istore_n 1, 1) := by decide +kernel
theorem dX7_tries_24 : decode cX7_tries 24 = .ok (.iload_n 1, 1) := by decide +kernel
theorem dX7_tries_25 : decode cX7_tries 25 = .ok (.aload_n 0, 1) := by decide +kernel
theorem dX7_tries_26 : decode cX7_tries 26 = .ok (.getfield 171, 3) := by decide +kernel
theorem dX7_tries_29 : decode cX7_tries 29 = .ok (.if_icmp .ge 94, 3) := by decide +kernel
theorem dX7_tries_32 : decode cX7_tries 32 = .ok (.aload_n 0, 1) := by decide +kernel
theorem dX7_tries_33 : decode cX7_tries 33 = .ok (.getfield 22, 3) := by decide +kernel
theorem dX7_tries_36 : decode cX7_tries 36 = .ok (.iload_n 1, 1) := by decide +kernel
theorem dX7_tries_37 : decode cX7_tries 37 = .ok (.iaload, 1) := by decide +kernel
theorem dX7_tries_38 : decode cX7_tries 38 = .ok (.invokestatic 174, 3) := by decide +kernel
theorem dX7_tries_41 : decode cX7_tries 41 = .ok (.istore_n 2, 1) := by decide +kernel
theorem dX7_tries_42 : decode cX7_tries 42 = .ok (.aload_n 0, 1) := by decide +kernel
theorem dX7_tries_43 : decode cX7_tries 43 = .ok (.getfield 22, 3) := by decide +kernel
theorem dX7_tries_46 : decode cX7_tries 46 = .ok (.iload_n 1, 1) := by decide +kernel
theorem dX7_tries_47 : decode cX7_tries 47 = .ok (.iaload, 1) := by decide +kernel
theorem dX7_tries_48 : decode cX7_tries 48 = .ok (.invokestatic 177, 3) := by decide +kernel
theorem dX7_tries_51 : decode cX7_tries 51 = .ok (.istore_n 3, 1) := by decide +kernel
theorem dX7_tries_52 : decode cX7_tries 52 = .ok (.iload_n 2, 1) := by decide +kernel
theorem dX7_tries_53 : decode cX7_tries 53 = .ok (.ifCond .lt 21, 3) := by decide +kernel
theorem dX7_tries_56 : decode cX7_tries 56 = .ok (.aload_n 0, 1) := by decide +kernel
theorem dX7_tries_57 : decode cX7_tries 57 = .ok (.getfield 25, 3) := by decide +kernel
theorem dX7_tries_60 : decode cX7_tries 60 = .ok (.aload_n 0, 1) := by decide +kernel
theorem dX7_tries_61 : decode cX7_tries 61 = .ok (.getfield 184, 3) := by decide +kernel
theorem dX7_tries_64 : decode cX7_tries 64 = .ok (.dup2, 1) := by decide +kernel
theorem dX7_tries_65 : decode cX7_tries 65 = .ok (.iaload, 1) := by decide +kernel
theorem dX7_tries_66 : decode cX7_tries 66 = .ok (.iconst 1, 1) := by decide +kernel
theorem dX7_tries_67 : decode cX7_tries 67 = .ok (.iload_n 2, 1) := by decide +kernel
theorem dX7_tries_68 : decode cX7_tries 68 = .ok (.ishl, 1) := by decide +kernel
theorem dX7_tries_69 : decode cX7_tries 69 = .ok (.ior, 1) := by decide +kernel
theorem dX7_tries_70 : decode cX7_tries 70 = .ok (.iastore, 1) := by decide +kernel
theorem dX7_tries_71 : decode cX7_tries 71 = .ok (.goto 46, 3) := by decide +kernel
theorem dX7_tries_74 : decode cX7_tries 74 = .ok (.iload_n 3, 1) := by decide +kernel
theorem dX7_tries_75 : decode cX7_tries 75 = .ok (.ifCond .lt 42, 3) := by decide +kernel
theorem dX7_tries_78 : decode cX7_tries 78 = .ok (.aload_n 0, 1) := by decide +kernel
theorem dX7_tries_79 : decode cX7_tries 79 = .ok (.getfield 28, 3) := by decide +kernel
theorem dX7_tries_82 : decode cX7_tries 82 = .ok (.aload_n 0, 1) := by decide +kernel
theorem dX7_tries_83 : decode cX7_tries 83 = .ok (.getfield 184, 3) := by decide +kernel
theorem dX7_tries_86 : decode cX7_tries 86 = .ok (.iload_n 3, 1) := by decide +kernel
theorem dX7_tries_87 : decode cX7_tries 87 = .ok (.iastore, 1) := by decide +kernel
theorem dX7_tries_88 : decode cX7_tries 88 = .ok (.aload_n 0, 1) := by decide +kernel
theorem dX7_tries_89 : decode cX7_tries 89 = .ok (.dup, 1) := by decide +kernel
theorem dX7_tries_90 : decode cX7_tries 90 = .ok (.getfield 184, 3) := by decide +kernel
theorem dX7_tries_93 : decode cX7_tries 93 = .ok (.iconst 1, 1) := by decide +kernel
theorem dX7_tries_94 : decode cX7_tries 94 = .ok (.iadd, 1) := by decide +kernel
theorem dX7_tries_95 : decode cX7_tries 95 = .ok (.putfield 184, 3) := by decide +kernel
theorem dX7_tries_98 : decode cX7_tries 98 = .ok (.aload_n 0, 1) := by decide +kernel
theorem dX7_tries_99 : decode cX7_tries 99 = .ok (.getfield 184, 3) := by decide +kernel
theorem dX7_tries_102 : decode cX7_tries 102 = .ok (.bipush 20, 2) := by decide +kernel
theorem dX7_tries_104 : decode cX7_tries 104 = .ok (.if_icmp .ge 13, 3) := by decide +kernel
theorem dX7_tries_107 : decode cX7_tries 107 = .ok (.aload_n 0, 1) := by decide +kernel
theorem dX7_tries_108 : decode cX7_tries 108 = .ok (.getfield 25, 3) := by decide +kernel
theorem dX7_tries_111 : decode cX7_tries 111 = .ok (.aload_n 0, 1) := by decide +kernel
theorem dX7_tries_112 : decode cX7_tries 112 = .ok (.getfield 184, 3) := by decide +kernel
theorem dX7_tries_115 : decode cX7_tries 115 = .ok (.iconst 0, 1) := by decide +kernel
theorem dX7_tries_116 : decode cX7_tries 116 = .ok (.iastore, 1) := by decide +kernel
theorem dX7_tries_117 : decode cX7_tries 117 = .ok (.iinc 1 1, 3) := by decide +kernel
theorem dX7_tries_120 : decode cX7_tries 120 = .ok (.goto (-96), 3) := by decide +kernel
theorem dX7_tries_123 : decode cX7_tries 123 = .ok (.aload_n 0, 1) := by decide +kernel
theorem dX7_tries_124 : decode cX7_tries 124 = .ok (.iconst 0, 1) := by decide +kernel
theorem dX7_tries_125 : decode cX7_tries 125 = .ok (.putfield 171, 3) := by decide +kernel
theorem dX7_tries_128 : decode cX7_tries 128 = .ok (.aload_n 0, 1) := by decide +kernel
theorem dX7_tries_129 : decode cX7_tries 129 = .ok (.getfield 184, 3) := by decide +kernel
theorem dX7_tries_132 : decode cX7_tries 132 = .ok (.ireturn, 1) := by decide +kernel
set_option maxRecDepth 20000 in
theorem ggX7_tried_X7_in : GoodIn wsX7_tried wsX7_in := goodIn_r _ [7] (by decide +kernel) (by decide +kernel)
set_option maxRecDepth 20000 in
theorem gX7_tried_X7_in : GoodIn wsX7_tried (va_wsS RX7 60 yX7_in wsX7_in) := goodIn_app (goodIn_of _ (by decide +kernel)) ggX7_tried_X7_in
theorem dX7_tried_0 : decode cX7_tried 0 = .ok (.iload_n 1, 1) := by decide +kernel
theorem dX7_tried_1 : decode cX7_tried 1 = .ok (.iconst 0, 1) := by decide +kernel
theorem dX7_tried_2 : decode cX7_tried 2 = .ok (.aload_n 0, 1) := by decide +kernel
theorem dX7_tried_3 : decode cX7_tried 3 = .ok (.getfield 184, 3) := by decide +kernel
theorem dX7_tried_6 : decode cX7_tried 6 = .ok (.iconst 1, 1) := by decide +kernel
theorem dX7_tried_7 : decode cX7_tried 7 = .ok (.isub, 1) := by decide +kernel
theorem dX7_tried_8 : decode cX7_tried 8 = .ok (.invokestatic 60, 3) := by decide +kernel
theorem dX7_tried_11 : decode cX7_tried 11 = .ok (.ifCond .ne 5, 3) := by decide +kernel
theorem dX7_tried_14 : decode cX7_tried 14 = .ok (.iconst (-1), 1) := by decide +kernel
theorem dX7_tried_15 : decode cX7_tried 15 = .ok (.ireturn, 1) := by decide +kernel
theorem dX7_tried_16 : decode cX7_tried 16 = .ok (.iload_n 2, 1) := by decide +kernel
theorem dX7_tried_17 : decode cX7_tried 17 = .ok (.ifCond .ne 12, 3) := by decide +kernel
theorem dX7_tried_20 : decode cX7_tried 20 = .ok (.aload_n 0, 1) := by decide +kernel
theorem dX7_tried_21 : decode cX7_tried 21 = .ok (.getfield 25, 3) := by decide +kernel
theorem dX7_tried_24 : decode cX7_tried 24 = .ok (.iload_n 1, 1) := by decide +kernel
theorem dX7_tried_25 : decode cX7_tried 25 = .ok (.iaload, 1) := by decide +kernel
theorem dX7_tried_26 : decode cX7_tried 26 = .ok (.goto 19, 3) := by decide +kernel
theorem dX7_tried_29 : decode cX7_tried 29 = .ok (.iload_n 2, 1) := by decide +kernel
theorem dX7_tried_30 : decode cX7_tried 30 = .ok (.iconst 1, 1) := by decide +kernel
theorem dX7_tried_31 : decode cX7_tried 31 = .ok (.if_icmp .ne 12, 3) := by decide +kernel
theorem dX7_tried_34 : decode cX7_tried 34 = .ok (.aload_n 0, 1) := by decide +kernel
theorem dX7_tried_35 : decode cX7_tried 35 = .ok (.getfield 28, 3) := by decide +kernel
theorem dX7_tried_38 : decode cX7_tried 38 = .ok (.iload_n 1, 1) := by decide +kernel
theorem dX7_tried_39 : decode cX7_tried 39 = .ok (.iaload, 1) := by decide +kernel
theorem dX7_tried_40 : decode cX7_tried 40 = .ok (.goto 5, 3) := by decide +kernel
theorem dX7_tried_43 : decode cX7_tried 43 = .ok (.bipush (-2), 2) := by decide +kernel
theorem dX7_tried_45 : decode cX7_tried 45 = .ok (.ireturn, 1) := by decide +kernel
set_option maxRecDepth 20000 in
theorem ggX7_said_X7_in : GoodIn wsX7_said wsX7_in := goodIn_r _ [7] (by decide +kernel) (by decide +kernel)
set_option maxRecDepth 20000 in
theorem gX7_said_X7_in : GoodIn wsX7_said (va_wsS RX7 60 yX7_in wsX7_in) := goodIn_app (goodIn_of _ (by decide +kernel)) ggX7_said_X7_in
set_option maxRecDepth 20000 in
theorem ggX7_said_X7_isTwo : GoodIn wsX7_said wsX7_isTwo := goodIn_r _ [10, 4, 5, 6, 7] (by decide +kernel) (by decide +kernel)
set_option maxRecDepth 20000 in
theorem gX7_said_X7_isTwo : GoodIn wsX7_said (va_wsS RX7 66 yX7_isTwo wsX7_isTwo) := goodIn_app (goodIn_of _ (by decide +kernel)) ggX7_said_X7_isTwo
theorem dX7_said_0 : decode cX7_said 0 = .ok (.iload_n 1, 1) := by decide +kernel
theorem dX7_said_1 : decode cX7_said 1 = .ok (.iconst 0, 1) := by decide +kernel
theorem dX7_said_2 : decode cX7_said 2 = .ok (.iconst 3, 1) := by decide +kernel
theorem dX7_said_3 : decode cX7_said 3 = .ok (.invokestatic 60, 3) := by decide +kernel
theorem dX7_said_6 : decode cX7_said 6 = .ok (.ifCond .ne 5, 3) := by decide +kernel
theorem dX7_said_9 : decode cX7_said 9 = .ok (.iconst (-1), 1) := by decide +kernel
theorem dX7_said_10 : decode cX7_said 10 = .ok (.ireturn, 1) := by decide +kernel
theorem dX7_said_11 : decode cX7_said 11 = .ok (.iload_n 2, 1) := by decide +kernel
theorem dX7_said_12 : decode cX7_said 12 = .ok (.invokestatic 66, 3) := by decide +kernel
theorem dX7_said_15 : decode cX7_said 15 = .ok (.ifCond .ne 6, 3) := by decide +kernel
theorem dX7_said_18 : decode cX7_said 18 = .ok (.bipush (-2), 2) := by decide +kernel
theorem dX7_said_20 : decode cX7_said 20 = .ok (.ireturn, 1) := by decide +kernel
theorem dX7_said_21 : decode cX7_said 21 = .ok (.iconst 0, 1) := by decide +kernel
theorem dX7_said_22 : decode cX7_said 22 = .ok (.istore_n 3, 1) := by decide +kernel
theorem dX7_said_23 : decode cX7_said 23 = .ok (.iconst 0, 1) := by decide +kernel
theorem dX7_said_24 : decode cX7_said 24 = .ok (.istore 4, 2) := by decide +kernel
theorem dX7_said_26 : decode cX7_said 26 = .ok (.iload 4, 2) := by decide +kernel
theorem dX7_said_28 : decode cX7_said 28 = .ok (.aload_n 0, 1) := by decide +kernel
theorem dX7_said_29 : decode cX7_said 29 = .ok (.getfield 184, 3) := by decide +kernel
theorem dX7_said_32 : decode cX7_said 32 = .ok (.if_icmp .ge 93, 3) := by decide +kernel
theorem dX7_said_35 : decode cX7_said 35 = .ok (.iconst 0, 1) := by decide +kernel
theorem dX7_said_36 : decode cX7_said 36 = .ok (.istore 5, 2) := by decide +kernel
theorem dX7_said_38 : decode cX7_said 38 = .ok (.iload 5, 2) := by decide +kernel
theorem dX7_said_40 : decode cX7_said 40 = .ok (.iload 4, 2) := by decide +kernel
theorem dX7_said_42 : decode cX7_said 42 = .ok (.if_icmp .ge 77, 3) := by decide +kernel
theorem dX7_said_45 : decode cX7_said 45 = .ok (.aload_n 0, 1) := by decide +kernel
theorem dX7_said_46 : decode cX7_said 46 = .ok (.getfield 28, 3) := by decide +kernel
theorem dX7_said_49 : decode cX7_said 49 = .ok (.iload 4, 2) := by decide +kernel
theorem dX7_said_51 : decode cX7_said 51 = .ok (.iaload, 1) := by decide +kernel
theorem dX7_said_52 : decode cX7_said 52 = .ok (.aload_n 0, 1) := by decide +kernel
theorem dX7_said_53 : decode cX7_said 53 = .ok (.getfield 28, 3) := by decide +kernel
theorem dX7_said_56 : decode cX7_said 56 = .ok (.iload 5, 2) := by decide +kernel
theorem dX7_said_58 : decode cX7_said 58 = .ok (.iaload, 1) := by decide +kernel
theorem dX7_said_59 : decode cX7_said 59 = .ok (.if_icmp .ne 7, 3) := by decide +kernel
theorem dX7_said_62 : decode cX7_said 62 = .ok (.iconst 1, 1) := by decide +kernel
theorem dX7_said_63 : decode cX7_said 63 = .ok (.goto 4, 3) := by decide +kernel
theorem dX7_said_66 : decode cX7_said 66 = .ok (.iconst 0, 1) := by decide +kernel
theorem dX7_said_67 : decode cX7_said 67 = .ok (.istore 6, 2) := by decide +kernel
theorem dX7_said_69 : decode cX7_said 69 = .ok (.iload_n 3, 1) := by decide +kernel
theorem dX7_said_70 : decode cX7_said 70 = .ok (.aload_n 0, 1) := by decide +kernel
theorem dX7_said_71 : decode cX7_said 71 = .ok (.getfield 25, 3) := by decide +kernel
theorem dX7_said_74 : decode cX7_said 74 = .ok (.iload 4, 2) := by decide +kernel
theorem dX7_said_76 : decode cX7_said 76 = .ok (.iaload, 1) := by decide +kernel
theorem dX7_said_77 : decode cX7_said 77 = .ok (.aload_n 0, 1) := by decide +kernel
theorem dX7_said_78 : decode cX7_said 78 = .ok (.getfield 25, 3) := by decide +kernel
theorem dX7_said_81 : decode cX7_said 81 = .ok (.iload 5, 2) := by decide +kernel
theorem dX7_said_83 : decode cX7_said 83 = .ok (.iaload, 1) := by decide +kernel
theorem dX7_said_84 : decode cX7_said 84 = .ok (.ixor, 1) := by decide +kernel
theorem dX7_said_85 : decode cX7_said 85 = .ok (.iconst 1, 1) := by decide +kernel
theorem dX7_said_86 : decode cX7_said 86 = .ok (.iload_n 1, 1) := by decide +kernel
theorem dX7_said_87 : decode cX7_said 87 = .ok (.ishl, 1) := by decide +kernel
theorem dX7_said_88 : decode cX7_said 88 = .ok (.if_icmp .ne 22, 3) := by decide +kernel
theorem dX7_said_91 : decode cX7_said 91 = .ok (.iload 6, 2) := by decide +kernel
theorem dX7_said_93 : decode cX7_said 93 = .ok (.iload_n 2, 1) := by decide +kernel
theorem dX7_said_94 : decode cX7_said 94 = .ok (.iconst 1, 1) := by decide +kernel
theorem dX7_said_95 : decode cX7_said 95 = .ok (.if_icmp .ne 7, 3) := by decide +kernel
theorem dX7_said_98 : decode cX7_said 98 = .ok (.iconst 1, 1) := by decide +kernel
theorem dX7_said_99 : decode cX7_said 99 = .ok (.goto 4, 3) := by decide +kernel
theorem dX7_said_102 : decode cX7_said 102 = .ok (.iconst 0, 1) := by decide +kernel
theorem dX7_said_103 : decode cX7_said 103 = .ok (.if_icmp .ne 7, 3) := by decide +kernel
theorem dX7_said_106 : decode cX7_said 106 = .ok (.iconst 1, 1) := by decide +kernel
theorem dX7_said_107 : decode cX7_said 107 = .ok (.goto 4, 3) := by decide +kernel
theorem dX7_said_110 : decode cX7_said 110 = .ok (.iconst 0, 1) := by decide +kernel
theorem dX7_said_111 : decode cX7_said 111 = .ok (.iadd, 1) := by decide +kernel
theorem dX7_said_112 : decode cX7_said 112 = .ok (.istore_n 3, 1) := by decide +kernel
theorem dX7_said_113 : decode cX7_said 113 = .ok (.iinc 5 1, 3) := by decide +kernel
theorem dX7_said_116 : decode cX7_said 116 = .ok (.goto (-78), 3) := by decide +kernel
theorem dX7_said_119 : decode cX7_said 119 = .ok (.iinc 4 1, 3) := by decide +kernel
theorem dX7_said_122 : decode cX7_said 122 = .ok (.goto (-96), 3) := by decide +kernel
theorem dX7_said_125 : decode cX7_said 125 = .ok (.iload_n 3, 1) := by decide +kernel
theorem dX7_said_126 : decode cX7_said 126 = .ok (.ireturn, 1) := by decide +kernel
theorem dX7_ask_0 : decode cX7_ask 0 = .ok (.bipush (-6), 2) := by decide +kernel
theorem dX7_ask_2 : decode cX7_ask 2 = .ok (.istore_n 1, 1) := by decide +kernel
theorem dX7_ask_3 : decode cX7_ask 3 = .ok (.iconst 0, 1) := by decide +kernel
theorem dX7_ask_4 : decode cX7_ask 4 = .ok (.istore_n 2, 1) := by decide +kernel
theorem dX7_ask_5 : decode cX7_ask 5 = .ok (.iconst 0, 1) := by decide +kernel
theorem dX7_ask_6 : decode cX7_ask 6 = .ok (.istore_n 3, 1) := by decide +kernel
theorem dX7_ask_7 : decode cX7_ask 7 = .ok (.iload_n 3, 1) := by decide +kernel
theorem dX7_ask_8 : decode cX7_ask 8 = .ok (.bipush 16, 2) := by decide +kernel
theorem dX7_ask_10 : decode cX7_ask 10 = .ok (.if_icmp .ge 116, 3) := by decide +kernel
theorem dX7_ask_13 : decode cX7_ask 13 = .ok (.iconst 0, 1) := by decide +kernel
theorem dX7_ask_14 : decode cX7_ask 14 = .ok (.istore 4, 2) := by decide +kernel
theorem dX7_ask_16 : decode cX7_ask 16 = .ok (.iconst 0, 1) := by decide +kernel
theorem dX7_ask_17 : decode cX7_ask 17 = .ok (.istore 5, 2) := by decide +kernel
theorem dX7_ask_19 : decode cX7_ask 19 = .ok (.iconst 0, 1) := by decide +kernel
theorem dX7_ask_20 : decode cX7_ask 20 = .ok (.istore 6, 2) := by decide +kernel
theorem dX7_ask_22 : decode cX7_ask 22 = .ok (.iload 6, 2) := by decide +kernel
theorem dX7_ask_24 : decode cX7_ask 24 = .ok (.aload_n 0, 1) := by decide +kernel
theorem dX7_ask_25 : decode cX7_ask 25 = .ok (.getfield 184, 3) := by decide +kernel
theorem dX7_ask_28 : decode cX7_ask 28 = .ok (.if_icmp .ge 72, 3) := by decide +kernel
theorem dX7_ask_31 : decode cX7_ask 31 = .ok (.aload_n 0, 1) := by decide +kernel
theorem dX7_ask_32 : decode cX7_ask 32 = .ok (.getfield 25, 3) := by decide +kernel
theorem dX7_ask_35 : decode cX7_ask 35 = .ok (.iload 6, 2) := by decide +kernel
theorem dX7_ask_37 : decode cX7_ask 37 = .ok (.iaload, 1) := by decide +kernel
theorem dX7_ask_38 : decode cX7_ask 38 = .ok (.iload_n 3, 1) := by decide +kernel
theorem dX7_ask_39 : decode cX7_ask 39 = .ok (.ixor, 1) := by decide +kernel
theorem dX7_ask_40 : decode cX7_ask 40 = .ok (.istore 7, 2) := by decide +kernel
theorem dX7_ask_42 : decode cX7_ask 42 = .ok (.iload 4, 2) := by decide +kernel
theorem dX7_ask_44 : decode cX7_ask 44 = .ok (.ifCond .ne 8, 3) := by decide +kernel
theorem dX7_ask_47 : decode cX7_ask 47 = .ok (.iload 7, 2) := by decide +kernel
theorem dX7_ask_49 : decode cX7_ask 49 = .ok (.ifCond .ne 7, 3) := by decide +kernel
theorem dX7_ask_52 : decode cX7_ask 52 = .ok (.iconst 1, 1) := by decide +kernel
theorem dX7_ask_53 : decode cX7_ask 53 = .ok (.goto 4, 3) := by decide +kernel
theorem dX7_ask_56 : decode cX7_ask 56 = .ok (.iconst 0, 1) := by decide +kernel
theorem dX7_ask_57 : decode cX7_ask 57 = .ok (.istore 4, 2) := by decide +kernel
theorem dX7_ask_59 : decode cX7_ask 59 = .ok (.iload 5, 2) := by decide +kernel
theorem dX7_ask_61 : decode cX7_ask 61 = .ok (.iload 7, 2) := by decide +kernel
theorem dX7_ask_63 : decode cX7_ask 63 = .ok (.iconst 1, 1) := by decide +kernel
theorem dX7_ask_64 : decode cX7_ask 64 = .ok (.if_icmp .eq 22, 3) := by decide +kernel
theorem dX7_ask_67 : decode cX7_ask 67 = .ok (.iload 7, 2) := by decide +kernel
theorem dX7_ask_69 : decode cX7_ask 69 = .ok (.iconst 2, 1) := by decide +kernel
theorem dX7_ask_70 : decode cX7_ask 70 = .ok (.if_icmp .eq 16, 3) := by decide +kernel
theorem dX7_ask_73 : decode cX7_ask 73 = .ok (.iload 7, 2) := by decide +kernel
theorem dX7_ask_75 : decode cX7_ask 75 = .ok (.iconst 4, 1) := by decide +kernel
theorem dX7_ask_76 : decode cX7_ask 76 = .ok (.if_icmp .eq 10, 3) := by decide +kernel
theorem dX7_ask_79 : decode cX7_ask 79 = .ok (.iload 7, 2) := by decide +kernel
theorem dX7_ask_81 : decode cX7_ask 81 = .ok (.bipush 8, 2) := by decide +kernel
theorem dX7_ask_83 : decode cX7_ask 83 = .ok (.if_icmp .ne 7, 3) := by decide +kernel
theorem dX7_ask_86 : decode cX7_ask 86 = .ok (.iconst 1, 1) := by decide +kernel
theorem dX7_ask_87 : decode cX7_ask 87 = .ok (.goto 4, 3) := by decide +kernel
theorem dX7_ask_90 : decode cX7_ask 90 = .ok (.iconst 0, 1) := by decide +kernel
theorem dX7_ask_91 : decode cX7_ask 91 = .ok (.iadd, 1) := by decide +kernel
theorem dX7_ask_92 : decode cX7_ask 92 = .ok (.istore 5, 2) := by decide +kernel
theorem dX7_ask_94 : decode cX7_ask 94 = .ok (.iinc 6 1, 3) := by decide +kernel
theorem dX7_ask_97 : decode cX7_ask 97 = .ok (.goto (-75), 3) := by decide +kernel
theorem dX7_ask_100 : decode cX7_ask 100 = .ok (.iload 4, 2) := by decide +kernel
theorem dX7_ask_102 : decode cX7_ask 102 = .ok (.ifCond .ne 18, 3) := by decide +kernel
theorem dX7_ask_105 : decode cX7_ask 105 = .ok (.iload_n 1, 1) := by decide +kernel
theorem dX7_ask_106 : decode cX7_ask 106 = .ok (.ifCond .lt 9, 3) := by decide +kernel
theorem dX7_ask_109 : decode cX7_ask 109 = .ok (.iload 5, 2) := by decide +kernel
theorem dX7_ask_111 : decode cX7_ask 111 = .ok (.iload_n 2, 1) := by decide +kernel
theorem dX7_ask_112 : decode cX7_ask 112 = .ok (.if_icmp .le 8, 3) := by decide +kernel
theorem dX7_ask_115 : decode cX7_ask 115 = .ok (.iload_n 3, 1) := by decide +kernel
theorem dX7_ask_116 : decode cX7_ask 116 = .ok (.istore_n 1, 1) := by decide +kernel
theorem dX7_ask_117 : decode cX7_ask 117 = .ok (.iload 5, 2) := by decide +kernel
theorem dX7_ask_119 : decode cX7_ask 119 = .ok (.istore_n 2, 1) := by decide +kernel
theorem dX7_ask_120 : decode cX7_ask 120 = .ok (.iinc 3 1, 3) := by decide +kernel
theorem dX7_ask_123 : decode cX7_ask 123 = .ok (.goto (-116), 3) := by decide +kernel
theorem dX7_ask_126 : decode cX7_ask 126 = .ok (.iload_n 1, 1) := by decide +kernel
theorem dX7_ask_127 : decode cX7_ask 127 = .ok (.ireturn, 1) := by decide +kernel
set_option maxRecDepth 20000 in
theorem ggX7_drawn_X7_sumOf : GoodIn wsX7_drawn wsX7_sumOf := goodIn_r _ [8, 3, 9, 10, 11, 12, 13, 14, 15, 16, 17, 18, 19, 20, 21, 22, 23, 24, 25, 26, 27, 28, 29, 30, 31] (by decide +kernel) (by decide +kernel)
set_option maxRecDepth 20000 in
theorem gX7_drawn_X7_sumOf : GoodIn wsX7_drawn (wsV RX7 157 RX7 yX7_sumOf wsX7_sumOf) := goodIn_app (goodIn_of _ (by decide +kernel)) ggX7_drawn_X7_sumOf
theorem dX7_drawn_0 : decode cX7_drawn 0 = .ok (.aload_n 0, 1) := by decide +kernel
theorem dX7_drawn_1 : decode cX7_drawn 1 = .ok (.aload_n 0, 1) := by decide +kernel
theorem dX7_drawn_2 : decode cX7_drawn 2 = .ok (.getfield 187, 3) := by decide +kernel
theorem dX7_drawn_5 : decode cX7_drawn 5 = .ok (.bipush 75, 2) := by decide +kernel
theorem dX7_drawn_7 : decode cX7_drawn 7 = .ok (.imul, 1) := by decide +kernel
theorem dX7_drawn_8 : decode cX7_drawn 8 = .ok (.bipush 74, 2) := by decide +kernel
theorem dX7_drawn_10 : decode cX7_drawn 10 = .ok (.iadd, 1) := by decide +kernel
theorem dX7_drawn_11 : decode cX7_drawn 11 = .ok (.ldc 190, 2) := by decide +kernel
theorem dX7_drawn_13 : decode cX7_drawn 13 = .ok (.irem, 1) := by decide +kernel
theorem dX7_drawn_14 : decode cX7_drawn 14 = .ok (.putfield 187, 3) := by decide +kernel
theorem dX7_drawn_17 : decode cX7_drawn 17 = .ok (.aload_n 0, 1) := by decide +kernel
theorem dX7_drawn_18 : decode cX7_drawn 18 = .ok (.getfield 187, 3) := by decide +kernel
theorem dX7_drawn_21 : decode cX7_drawn 21 = .ok (.aload_n 0, 1) := by decide +kernel
theorem dX7_drawn_22 : decode cX7_drawn 22 = .ok (.iload_n 1, 1) := by decide +kernel
theorem dX7_drawn_23 : decode cX7_drawn 23 = .ok (.invokevirtual 157, 3) := by decide +kernel
theorem dX7_drawn_26 : decode cX7_drawn 26 = .ok (.irem, 1) := by decide +kernel
theorem dX7_drawn_27 : decode cX7_drawn 27 = .ok (.istore_n 2, 1) := by decide +kernel
theorem dX7_drawn_28 : decode cX7_drawn 28 = .ok (.iconst 0, 1) := by decide +kernel
theorem dX7_drawn_29 : decode cX7_drawn 29 = .ok (.istore_n 3, 1) := by decide +kernel
theorem dX7_drawn_30 : decode cX7_drawn 30 = .ok (.iload_n 2, 1) := by decide +kernel
theorem dX7_drawn_31 : decode cX7_drawn 31 = .ok (.aload_n 0, 1) := by decide +kernel
theorem dX7_drawn_32 : decode cX7_drawn 32 = .ok (.getfield 16, 3) := by decide +kernel
theorem dX7_drawn_35 : decode cX7_drawn 35 = .ok (.bipush 10, 2) := by decide +kernel
theorem dX7_drawn_37 : decode cX7_drawn 37 = .ok (.iload_n 1, 1) := by decide +kernel
theorem dX7_drawn_38 : decode cX7_drawn 38 = .ok (.imul, 1) := by decide +kernel
theorem dX7_drawn_39 : decode cX7_drawn 39 = .ok (.iload_n 3, 1) := by decide +kernel
theorem dX7_drawn_40 : decode cX7_drawn 40 = .ok (.iadd, 1) := by decide +kernel
theorem dX7_drawn_41 : decode cX7_drawn 41 = .ok (.iaload, 1) := by decide +kernel
theorem dX7_drawn_42 : decode cX7_drawn 42 = .ok (.if_icmp .lt 23, 3) := by decide +kernel
theorem dX7_drawn_45 : decode cX7_drawn 45 = .ok (.iload_n 2, 1) := by decide +kernel
theorem dX7_drawn_46 : decode cX7_drawn 46 = .ok (.aload_n 0, 1) := by decide +kernel
theorem dX7_drawn_47 : decode cX7_drawn 47 = .ok (.getfield 16, 3) := by decide +kernel
theorem dX7_drawn_50 : decode cX7_drawn 50 = .ok (.bipush 10, 2) := by decide +kernel
theorem dX7_drawn_52 : decode cX7_drawn 52 = .ok (.iload_n 1, 1) := by decide +kernel
theorem dX7_drawn_53 : decode cX7_drawn 53 = .ok (.imul, 1) := by decide +kernel
theorem dX7_drawn_54 : decode cX7_drawn 54 = .ok (.iload_n 3, 1) := by decide +kernel
theorem dX7_drawn_55 : decode cX7_drawn 55 = .ok (.iadd, 1) := by decide +kernel
theorem dX7_drawn_56 : decode cX7_drawn 56 = .ok (.iaload, 1) := by decide +kernel
theorem dX7_drawn_57 : decode cX7_drawn 57 = .ok (.isub, 1) := by decide +kernel
theorem dX7_drawn_58 : decode cX7_drawn 58 = .ok (.istore_n 2, 1) := by decide +kernel
theorem dX7_drawn_59 : decode cX7_drawn 59 = .ok (.iinc 3 1, 3) := by decide +kernel
theorem dX7_drawn_62 : decode cX7_drawn 62 = .ok (.goto (-32), 3) := by decide +kernel
theorem dX7_drawn_65 : decode cX7_drawn 65 = .ok (.iload_n 3, 1) := by decide +kernel
theorem dX7_drawn_66 : decode cX7_drawn 66 = .ok (.ireturn, 1) := by decide +kernel
set_option maxRecDepth 20000 in
theorem ggX7_draw_X7_in : GoodIn wsX7_draw wsX7_in := goodIn_r _ [6] (by decide +kernel) (by decide +kernel)
set_option maxRecDepth 20000 in
theorem gX7_draw_X7_in : GoodIn wsX7_draw (va_wsS RX7 60 yX7_in wsX7_in) := goodIn_app (goodIn_of _ (by decide +kernel)) ggX7_draw_X7_in
set_option maxRecDepth 20000 in
theorem ggX7_draw_X7_isMeaning : GoodIn wsX7_draw wsX7_isMeaning := goodIn_r _ [9, 3, 4, 5, 6] (by decide +kernel) (by decide +kernel)
set_option maxRecDepth 20000 in
theorem gX7_draw_X7_isMeaning : GoodIn wsX7_draw (va_wsS RX7 139 yX7_isMeaning wsX7_isMeaning) := goodIn_app (goodIn_of _ (by decide +kernel)) ggX7_draw_X7_isMeaning
set_option maxRecDepth 20000 in
theorem ggX7_draw_X7_layTimes : GoodIn wsX7_draw wsX7_layTimes := goodIn_r _ [13, 2, 14, 15, 16, 5, 17, 18, 19, 20, 21, 22, 23, 24, 25, 26, 27, 28, 29, 30, 31, 32, 33, 34, 35, 36, 37, 38, 39, 40, 41, 42, 43, 44, 45, 46, 47, 48, 49, 50, 51, 52, 53, 54, 55, 56, 57, 58, 72, 73, 74, 75, 76, 77, 78, 79, 80, 81, 82, 83, 84, 85, 86, 87, 88, 89, 90, 91, 92, 93, 94] (by decide +kernel) (by decide +kernel)
set_option maxRecDepth 20000 in
theorem gX7_draw_X7_layTimes : GoodIn wsX7_draw (wsV RX7 154 RX7 yX7_layTimes wsX7_layTimes) := goodIn_app (goodIn_of _ (by decide +kernel)) ggX7_draw_X7_layTimes
set_option maxRecDepth 20000 in
theorem ggX7_draw_X7_drawn : GoodIn wsX7_draw wsX7_drawn := goodIn_r _ [62, 1, 63, 64, 65, 66, 67, 5, 68, 72, 73, 74, 75, 76, 77, 78, 79, 80, 81, 82, 83, 84, 85, 86, 87, 88, 89, 90, 91, 92, 93, 94] (by decide +kernel) (by decide +kernel)
set_option maxRecDepth 20000 in
theorem gX7_draw_X7_drawn : GoodIn wsX7_draw (wsV RX7 191 RX7 yX7_drawn wsX7_drawn) := goodIn_app (goodIn_of _ (by decide +kernel)) ggX7_draw_X7_drawn
set_option maxRecDepth 20000 in
theorem ggX7_draw_X7_firstOf : GoodIn wsX7_draw wsX7_firstOf := goodIn_r _ [71] (by decide +kernel) (by decide +kernel)
set_option maxRecDepth 20000 in
theorem gX7_draw_X7_firstOf : GoodIn wsX7_draw (va_wsS RX7 148 yX7_firstOf wsX7_firstOf) := goodIn_app (goodIn_of _ (by decide +kernel)) ggX7_draw_X7_firstOf
theorem dX7_draw_0 : decode cX7_draw 0 = .ok (.iload_n 1, 1) := by decide +kernel
theorem dX7_draw_1 : decode cX7_draw 1 = .ok (.iconst 0, 1) := by decide +kernel
theorem dX7_draw_2 : decode cX7_draw 2 = .ok (.sipush 9999, 3) := by decide +kernel
theorem dX7_draw_5 : decode cX7_draw 5 = .ok (.invokestatic 60, 3) := by decide +kernel
theorem dX7_draw_8 : decode cX7_draw 8 = .ok (.ifCond .eq 29, 3) := by decide +kernel
theorem dX7_draw_11 : decode cX7_draw 11 = .ok (.iload_n 2, 1) := by decide +kernel
theorem dX7_draw_12 : decode cX7_draw 12 = .ok (.iconst 1, 1) := by decide +kernel
theorem dX7_draw_13 : decode cX7_draw 13 = .ok (.sipush 300, 3) := by decide +kernel
theorem dX7_draw_16 : decode cX7_draw 16 = .ok (.invokestatic 60, 3) := by decide +kernel
theorem dX7_draw_19 : decode cX7_draw 19 = .ok (.ifCond .eq 18, 3) := by decide +kernel
theorem dX7_draw_22 : decode cX7_draw 22 = .ok (.iload_n 3, 1) := by decide +kernel
theorem dX7_draw_23 : decode cX7_draw 23 = .ok (.invokestatic 139, 3) := by decide +kernel
theorem dX7_draw_26 : decode cX7_draw 26 = .ok (.ifCond .eq 11, 3) := by decide +kernel
theorem dX7_draw_29 : decode cX7_draw 29 = .ok (.iload 4, 2) := by decide +kernel
theorem dX7_draw_31 : decode cX7_draw 31 = .ok (.invokestatic 139, 3) := by decide +kernel
theorem dX7_draw_34 : decode cX7_draw 34 = .ok (.ifCond .ne 6, 3) := by decide +kernel
theorem dX7_draw_37 : decode cX7_draw 37 = .ok (.bipush (-2), 2) := by decide +kernel
theorem dX7_draw_39 : decode cX7_draw 39 = .ok (.ireturn, 1) := by decide +kernel
theorem dX7_draw_40 : decode cX7_draw 40 = .ok (.aload_n 0, 1) := by decide +kernel
theorem dX7_draw_41 : decode cX7_draw 41 = .ok (.iload_n 3, 1) := by decide +kernel
theorem dX7_draw_42 : decode cX7_draw 42 = .ok (.invokevirtual 154, 3) := by decide +kernel
theorem dX7_draw_45 : decode cX7_draw 45 = .ok (.aload_n 0, 1) := by decide +kernel
theorem dX7_draw_46 : decode cX7_draw 46 = .ok (.iload_n 1, 1) := by decide +kernel
theorem dX7_draw_47 : decode cX7_draw 47 = .ok (.putfield 187, 3) := by decide +kernel
theorem dX7_draw_50 : decode cX7_draw 50 = .ok (.iconst 0, 1) := by decide +kernel
theorem dX7_draw_51 : decode cX7_draw 51 = .ok (.istore 5, 2) := by decide +kernel
theorem dX7_draw_53 : decode cX7_draw 53 = .ok (.iconst 0, 1) := by decide +kernel
theorem dX7_draw_54 : decode cX7_draw 54 = .ok (.istore 6, 2) := by decide +kernel
theorem dX7_draw_56 : decode cX7_draw 56 = .ok (.iload 6, 2) := by decide +kernel
theorem dX7_draw_58 : decode cX7_draw 58 = .ok (.iload_n 2, 1) := by decide +kernel
theorem dX7_draw_59 : decode cX7_draw 59 = .ok (.if_icmp .ge 58, 3) := by decide +kernel
theorem dX7_draw_62 : decode cX7_draw 62 = .ok (.aload_n 0, 1) := by decide +kernel
theorem dX7_draw_63 : decode cX7_draw 63 = .ok (.getfield 41, 3) := by decide +kernel
theorem dX7_draw_66 : decode cX7_draw 66 = .ok (.aload_n 0, 1) := by decide +kernel
theorem dX7_draw_67 : decode cX7_draw 67 = .ok (.iconst 0, 1) := by decide +kernel
theorem dX7_draw_68 : decode cX7_draw 68 = .ok (.invokevirtual 191, 3) := by decide +kernel
theorem dX7_draw_71 : decode cX7_draw 71 = .ok (.iaload, 1) := by decide +kernel
theorem dX7_draw_72 : decode cX7_draw 72 = .ok (.istore 7, 2) := by decide +kernel
theorem dX7_draw_74 : decode cX7_draw 74 = .ok (.aload_n 0, 1) := by decide +kernel
theorem dX7_draw_75 : decode cX7_draw 75 = .ok (.getfield 41, 3) := by decide +kernel
theorem dX7_draw_78 : decode cX7_draw 78 = .ok (.bipush 10, 2) := by decide +kernel
theorem dX7_draw_80 : decode cX7_draw 80 = .ok (.aload_n 0, 1) := by decide +kernel
theorem dX7_draw_81 : decode cX7_draw 81 = .ok (.iconst 1, 1) := by decide +kernel
theorem dX7_draw_82 : decode cX7_draw 82 = .ok (.invokevirtual 191, 3) := by decide +kernel
theorem dX7_draw_85 : decode cX7_draw 85 = .ok (.iadd, 1) := by decide +kernel
theorem dX7_draw_86 : decode cX7_draw 86 = .ok (.iaload, 1) := by decide +kernel
theorem dX7_draw_87 : decode cX7_draw 87 = .ok (.istore 8, 2) := by decide +kernel
theorem dX7_draw_89 : decode cX7_draw 89 = .ok (.iload 5, 2) := by decide +kernel
theorem dX7_draw_91 : decode cX7_draw 91 = .ok (.iload 7, 2) := by decide +kernel
theorem dX7_draw_93 : decode cX7_draw 93 = .ok (.iload 8, 2) := by decide +kernel
theorem dX7_draw_95 : decode cX7_draw 95 = .ok (.invokestatic 148, 3) := by decide +kernel
theorem dX7_draw_98 : decode cX7_draw 98 = .ok (.iload 4, 2) := by decide +kernel
theorem dX7_draw_100 : decode cX7_draw 100 = .ok (.if_icmp .ne 7, 3) := by decide +kernel
theorem dX7_draw_103 : decode cX7_draw 103 = .ok (.iconst 1, 1) := by decide +kernel
theorem dX7_draw_104 : decode cX7_draw 104 = .ok (.goto 4, 3) := by decide +kernel
theorem dX7_draw_107 : decode cX7_draw 107 = .ok (.iconst 0, 1) := by decide +kernel
theorem dX7_draw_108 : decode cX7_draw 108 = .ok (.iadd, 1) := by decide +kernel
theorem dX7_draw_109 : decode cX7_draw 109 = .ok (.istore 5, 2) := by decide +kernel
theorem dX7_draw_111 : decode cX7_draw 111 = .ok (.iinc 6 1, 3) := by decide +kernel
theorem dX7_draw_114 : decode cX7_draw 114 = .ok (.goto (-58), 3) := by decide +kernel
theorem dX7_draw_117 : decode cX7_draw 117 = .ok (.iload 5, 2) := by decide +kernel
theorem dX7_draw_119 : decode cX7_draw 119 = .ok (.ireturn, 1) := by decide +kernel
set_option maxRecDepth 20000 in
theorem ggX7_image_X7_isTwo : GoodIn wsX7_image wsX7_isTwo := goodIn_r _ [13, 14, 15, 12, 16] (by decide +kernel) (by decide +kernel)
set_option maxRecDepth 20000 in
theorem gX7_image_X7_isTwo : GoodIn wsX7_image (va_wsS RX7 66 yX7_isTwo wsX7_isTwo) := goodIn_app (goodIn_of _ (by decide +kernel)) ggX7_image_X7_isTwo
theorem dX7_image_0 : decode cX7_image 0 = .ok (.iload_n 1, 1) := by decide +kernel
theorem dX7_image_1 : decode cX7_image 1 = .ok (.invokestatic 66, 3) := by decide +kernel
theorem dX7_image_4 : decode cX7_image 4 = .ok (.ifCond .ne 6, 3) := by decide +kernel
theorem dX7_image_7 : decode cX7_image 7 = .ok (.bipush (-2), 2) := by decide +kernel
theorem dX7_image_9 : decode cX7_image 9 = .ok (.ireturn, 1) := by decide +kernel
theorem dX7_image_10 : decode cX7_image 10 = .ok (.bipush 80, 2) := by decide +kernel
theorem dX7_image_12 : decode cX7_image 12 = .ok (.iload_n 1, 1) := by decide +kernel
theorem dX7_image_13 : decode cX7_image 13 = .ok (.imul, 1) := by decide +kernel
theorem dX7_image_14 : decode cX7_image 14 = .ok (.istore_n 2, 1) := by decide +kernel
theorem dX7_image_15 : decode cX7_image 15 = .ok (.iconst 0, 1) := by decide +kernel
theorem dX7_image_16 : decode cX7_image 16 = .ok (.istore_n 3, 1) := by decide +kernel
theorem dX7_image_17 : decode cX7_image 17 = .ok (.iload_n 3, 1) := by decide +kernel
theorem dX7_image_18 : decode cX7_image 18 = .ok (.iconst 2, 1) := by decide +kernel
theorem dX7_image_19 : decode cX7_image 19 = .ok (.if_icmp .ge 39, 3) := by decide +kernel
theorem dX7_image_22 : decode cX7_image 22 = .ok (.aload_n 0, 1) := by decide +kernel
theorem dX7_image_23 : decode cX7_image 23 = .ok (.getfield 47, 3) := by decide +kernel
theorem dX7_image_26 : decode cX7_image 26 = .ok (.iload_n 2, 1) := by decide +kernel
theorem dX7_image_27 : decode cX7_image 27 = .ok (.iload_n 3, 1) := by decide +kernel
theorem dX7_image_28 : decode cX7_image 28 = .ok (.iadd, 1) := by decide +kernel
theorem dX7_image_29 : decode cX7_image 29 = .ok (.aload_n 0, 1) := by decide +kernel
theorem dX7_image_30 : decode cX7_image 30 = .ok (.getfield 7, 3) := by decide +kernel
theorem dX7_image_33 : decode cX7_image 33 = .ok (.iload_n 3, 1) := by decide +kernel
theorem dX7_image_34 : decode cX7_image 34 = .ok (.iaload, 1) := by decide +kernel
theorem dX7_image_35 : decode cX7_image 35 = .ok (.iastore, 1) := by decide +kernel
theorem dX7_image_36 : decode cX7_image 36 = .ok (.aload_n 0, 1) := by decide +kernel
theorem dX7_image_37 : decode cX7_image 37 = .ok (.getfield 47, 3) := by decide +kernel
theorem dX7_image_40 : decode cX7_image 40 = .ok (.iload_n 2, 1) := by decide +kernel
theorem dX7_image_41 : decode cX7_image 41 = .ok (.iconst 2, 1) := by decide +kernel
theorem dX7_image_42 : decode cX7_image 42 = .ok (.iadd, 1) := by decide +kernel
theorem dX7_image_43 : decode cX7_image 43 = .ok (.iload_n 3, 1) := by decide +kernel
theorem dX7_image_44 : decode cX7_image 44 = .ok (.iadd, 1) := by decide +kernel
theorem dX7_image_45 : decode cX7_image 45 = .ok (.aload_n 0, 1) := by decide +kernel
theorem dX7_image_46 : decode cX7_image 46 = .ok (.getfield 13, 3) := by decide +kernel
theorem dX7_image_49 : decode cX7_image 49 = .ok (.iload_n 3, 1) := by decide +kernel
theorem dX7_image_50 : decode cX7_image 50 = .ok (.iaload, 1) := by decide +kernel
theorem dX7_image_51 : decode cX7_image 51 = .ok (.iastore, 1) := by decide +kernel
theorem dX7_image_52 : decode cX7_image 52 = .ok (.iinc 3 1, 3) := by decide +kernel
theorem dX7_image_55 : decode cX7_image 55 = .ok (.goto (-38), 3) := by decide +kernel
theorem dX7_image_58 : decode cX7_image 58 = .ok (.iconst 0, 1) := by decide +kernel
theorem dX7_image_59 : decode cX7_image 59 = .ok (.istore_n 3, 1) := by decide +kernel
theorem dX7_image_60 : decode cX7_image 60 = .ok (.iload_n 3, 1) := by decide +kernel
theorem dX7_image_61 : decode cX7_image 61 = .ok (.bipush 20, 2) := by decide +kernel
theorem dX7_image_63 : decode cX7_image 63 = .ok (.if_icmp .ge 59, 3) := by decide +kernel
theorem dX7_image_66 : decode cX7_image 66 = .ok (.aload_n 0, 1) := by decide +kernel
theorem dX7_image_67 : decode cX7_image 67 = .ok (.getfield 47, 3) := by decide +kernel
theorem dX7_image_70 : decode cX7_image 70 = .ok (.iload_n 2, 1) := by decide +kernel
theorem dX7_image_71 : decode cX7_image 71 = .ok (.iconst 4, 1) := by decide +kernel
theorem dX7_image_72 : decode cX7_image 72 = .ok (.iadd, 1) := by decide +kernel
theorem dX7_image_73 : decode cX7_image 73 = .ok (.iload_n 3, 1) := by decide +kernel
theorem dX7_image_74 : decode cX7_image 74 = .ok (.iadd, 1) := by decide +kernel
theorem dX7_image_75 : decode cX7_image 75 = .ok (.aload_n 0, 1) := by decide +kernel
theorem dX7_image_76 : decode cX7_image 76 = .ok (.getfield 16, 3) := by decide +kernel
theorem dX7_image_79 : decode cX7_image 79 = .ok (.iload_n 3, 1) := by decide +kernel
theorem dX7_image_80 : decode cX7_image 80 = .ok (.iaload, 1) := by decide +kernel
theorem dX7_image_81 : decode cX7_image 81 = .ok (.iastore, 1) := by decide +kernel
theorem dX7_image_82 : decode cX7_image 82 = .ok (.aload_n 0, 1) := by decide +kernel
theorem dX7_image_83 : decode cX7_image 83 = .ok (.getfield 47, 3) := by decide +kernel
theorem dX7_image_86 : decode cX7_image 86 = .ok (.iload_n 2, 1) := by decide +kernel
theorem dX7_image_87 : decode cX7_image 87 = .ok (.bipush 24, 2) := by decide +kernel
theorem dX7_image_89 : decode cX7_image 89 = .ok (.iadd, 1) := by decide +kernel
theorem dX7_image_90 : decode cX7_image 90 = .ok (.iload_n 3, 1) := by decide +kernel
theorem dX7_image_91 : decode cX7_image 91 = .ok (.iadd, 1) := by decide +kernel
theorem dX7_image_92 : decode cX7_image 92 = .ok (.aload_n 0, 1) := by decide +kernel
theorem dX7_image_93 : decode cX7_image 93 = .ok (.getfield 25, 3) := by decide +kernel
theorem dX7_image_96 : decode cX7_image 96 = .ok (.iload_n 3, 1) := by decide +kernel
theorem dX7_image_97 : decode cX7_image 97 = .ok (.iaload, 1) := by decide +kernel
theorem dX7_image_98 : decode cX7_image 98 = .ok (.iastore, 1) := by decide +kernel
theorem dX7_image_99 : decode cX7_image 99 = .ok (.aload_n 0, 1) := by decide +kernel
theorem dX7_image_100 : decode cX7_image 100 = .ok (.getfield 47, 3) := by decide +kernel
theorem dX7_image_103 : decode cX7_image 103 = .ok (.iload_n 2, 1) := by decide +kernel
theorem dX7_image_104 : decode cX7_image 104 = .ok (.bipush 44, 2) := by decide +kernel
theorem dX7_image_106 : decode cX7_image 106 = .ok (.iadd, 1) := by decide +kernel
theorem dX7_image_107 : decode cX7_image 107 = .ok (.iload_n 3, 1) := by decide +kernel
theorem dX7_image_108 : decode cX7_image 108 = .ok (.iadd, 1) := by decide +kernel
theorem dX7_image_109 : decode cX7_image 109 = .ok (.aload_n 0, 1) := by decide +kernel
theorem dX7_image_110 : decode cX7_image 110 = .ok (.getfield 28, 3) := by decide +kernel
theorem dX7_image_113 : decode cX7_image 113 = .ok (.iload_n 3, 1) := by decide +kernel
theorem dX7_image_114 : decode cX7_image 114 = .ok (.iaload, 1) := by decide +kernel
theorem dX7_image_115 : decode cX7_image 115 = .ok (.iastore, 1) := by decide +kernel
theorem dX7_image_116 : decode cX7_image 116 = .ok (.iinc 3 1, 3) := by decide +kernel
theorem dX7_image_119 : decode cX7_image 119 = .ok (.goto (-59), 3) := by decide +kernel
theorem dX7_image_122 : decode cX7_image 122 = .ok (.iconst 0, 1) := by decide +kernel
theorem dX7_image_123 : decode cX7_image 123 = .ok (.istore_n 3, 1) := by decide +kernel
theorem dX7_image_124 : decode cX7_image 124 = .ok (.iload_n 3, 1) := by decide +kernel
theorem dX7_image_125 : decode cX7_image 125 = .ok (.bipush 11, 2) := by decide +kernel
theorem dX7_image_127 : decode cX7_image 127 = .ok (.if_icmp .ge 26, 3) := by decide +kernel
theorem dX7_image_130 : decode cX7_image 130 = .ok (.aload_n 0, 1) := by decide +kernel
theorem dX7_image_131 : decode cX7_image 131 = .ok (.getfield 47, 3) := by decide +kernel
theorem dX7_image_134 : decode cX7_image 134 = .ok (.iload_n 2, 1) := by decide +kernel
theorem dX7_image_135 : decode cX7_image 135 = .ok (.bipush 64, 2) := by decide +kernel
theorem dX7_image_137 : decode cX7_image 137 = .ok (.iadd, 1) := by decide +kernel
theorem dX7_image_138 : decode cX7_image 138 = .ok (.iload_n 3, 1) := by decide +kernel
theorem dX7_image_139 : decode cX7_image 139 = .ok (.iadd, 1) := by decide +kernel
theorem dX7_image_140 : decode cX7_image 140 = .ok (.aload_n 0, 1) := by decide +kernel
theorem dX7_image_141 : decode cX7_image 141 = .ok (.getfield 19, 3) := by decide +kernel
theorem dX7_image_144 : decode cX7_image 144 = .ok (.iload_n 3, 1) := by decide +kernel
theorem dX7_image_145 : decode cX7_image 145 = .ok (.iaload, 1) := by decide +kernel
theorem dX7_image_146 : decode cX7_image 146 = .ok (.iastore, 1) := by decide +kernel
theorem dX7_image_147 : decode cX7_image 147 = .ok (.iinc 3 1, 3) := by decide +kernel
theorem dX7_image_150 : decode cX7_image 150 = .ok (.goto (-26), 3) := by decide +kernel
theorem dX7_image_153 : decode cX7_image 153 = .ok (.aload_n 0, 1) := by decide +kernel
theorem dX7_image_154 : decode cX7_image 154 = .ok (.getfield 47, 3) := by decide +kernel
theorem dX7_image_157 : decode cX7_image 157 = .ok (.iload_n 2, 1) := by decide +kernel
theorem dX7_image_158 : decode cX7_image 158 = .ok (.bipush 75, 2) := by decide +kernel
theorem dX7_image_160 : decode cX7_image 160 = .ok (.iadd, 1) := by decide +kernel
theorem dX7_image_161 : decode cX7_image 161 = .ok (.aload_n 0, 1) := by decide +kernel
theorem dX7_image_162 : decode cX7_image 162 = .ok (.getfield 184, 3) := by decide +kernel
theorem dX7_image_165 : decode cX7_image 165 = .ok (.iastore, 1) := by decide +kernel
theorem dX7_image_166 : decode cX7_image 166 = .ok (.aload_n 0, 1) := by decide +kernel
theorem dX7_image_167 : decode cX7_image 167 = .ok (.getfield 50, 3) := by decide +kernel
theorem dX7_image_170 : decode cX7_image 170 = .ok (.iload_n 1, 1) := by decide +kernel
theorem dX7_image_171 : decode cX7_image 171 = .ok (.iconst 1, 1) := by decide +kernel
theorem dX7_image_172 : decode cX7_image 172 = .ok (.bastore, 1) := by decide +kernel
theorem dX7_image_173 : decode cX7_image 173 = .ok (.iconst 1, 1) := by decide +kernel
theorem dX7_image_174 : decode cX7_image 174 = .ok (.ireturn, 1) := by decide +kernel
set_option maxRecDepth 20000 in
theorem ggX7_restore_X7_isTwo : GoodIn wsX7_restore wsX7_isTwo := goodIn_r _ [13, 14, 15, 12, 16] (by decide +kernel) (by decide +kernel)
set_option maxRecDepth 20000 in
theorem gX7_restore_X7_isTwo : GoodIn wsX7_restore (va_wsS RX7 66 yX7_isTwo wsX7_isTwo) := goodIn_app (goodIn_of _ (by decide +kernel)) ggX7_restore_X7_isTwo
theorem dX7_restore_0 : decode cX7_restore 0 = .ok (.iload_n 1, 1) := by decide +kernel
theorem dX7_restore_1 : decode cX7_restore 1 = .ok (.invokestatic 66, 3) := by decide +kernel
theorem dX7_restore_4 : decode cX7_restore 4 = .ok (.ifCond .ne 6, 3) := by decide +kernel
theorem dX7_restore_7 : decode cX7_restore 7 = .ok (.bipush (-2), 2) := by decide +kernel
theorem dX7_restore_9 : decode cX7_restore 9 = .ok (.ireturn, 1) := by decide +kernel
theorem dX7_restore_10 : decode cX7_restore 10 = .ok (.aload_n 0, 1) := by decide +kernel
theorem dX7_restore_11 : decode cX7_restore 11 = .ok (.getfield 50, 3) := by decide +kernel
theorem dX7_restore_14 : decode cX7_restore 14 = .ok (.iload_n 1, 1) := by decide +kernel
theorem dX7_restore_15 : decode cX7_restore 15 = .ok (.baload, 1) := by decide +kernel
theorem dX7_restore_16 : decode cX7_restore 16 = .ok (.ifCond .ne 6, 3) := by decide +kernel
theorem dX7_restore_19 : decode cX7_restore 19 = .ok (.bipush (-3), 2) := by decide +kernel
theorem dX7_restore_21 : decode cX7_restore 21 = .ok (.ireturn, 1) := by decide +kernel
theorem dX7_restore_22 : decode cX7_restore 22 = .ok (.bipush 80, 2) := by decide +kernel
theorem dX7_restore_24 : decode cX7_restore 24 = .ok (.iload_n 1, 1) := by decide +kernel
theorem dX7_restore_25 : decode cX7_restore 25 = .ok (.imul, 1) := by decide +kernel
theorem dX7_restore_26 : decode cX7_restore 26 = .ok (.istore_n 2, 1) := by decide +kernel
theorem dX7_restore_27 : decode cX7_restore 27 = .ok (.iconst 0, 1) := by decide +kernel
theorem dX7_restore_28 : decode cX7_restore 28 = .ok (.istore_n 3, 1) := by decide +kernel
