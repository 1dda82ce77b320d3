theorem dX5_pairsBy_18 : decode cX5_pairsBy 18 = .ok (.if_icmp .ge 73, 3) := by decide +kernel
theorem dX5_pairsBy_21 : decode cX5_pairsBy 21 = .ok (.iconst 0, 1) := by decide +kernel
theorem dX5_pairsBy_22 : decode cX5_pairsBy 22 = .ok (.istore 5, 2) := by decide +kernel
theorem dX5_pairsBy_24 : decode cX5_pairsBy 24 = .ok (.iload 5, 2) := by decide +kernel
theorem dX5_pairsBy_26 : decode cX5_pairsBy 26 = .ok (.iload 4, 2) := by decide +kernel
theorem dX5_pairsBy_28 : decode cX5_pairsBy 28 = .ok (.if_icmp .ge 57, 3) := by decide +kernel
theorem dX5_pairsBy_31 : decode cX5_pairsBy 31 = .ok (.aload_n 0, 1) := by decide +kernel
theorem dX5_pairsBy_32 : decode cX5_pairsBy 32 = .ok (.getfield 9, 3) := by decide +kernel
theorem dX5_pairsBy_35 : decode cX5_pairsBy 35 = .ok (.iload 4, 2) := by decide +kernel
theorem dX5_pairsBy_37 : decode cX5_pairsBy 37 = .ok (.iaload, 1) := by decide +kernel
theorem dX5_pairsBy_38 : decode cX5_pairsBy 38 = .ok (.aload_n 0, 1) := by decide +kernel
theorem dX5_pairsBy_39 : decode cX5_pairsBy 39 = .ok (.getfield 9, 3) := by decide +kernel
theorem dX5_pairsBy_42 : decode cX5_pairsBy 42 = .ok (.iload 5, 2) := by decide +kernel
theorem dX5_pairsBy_44 : decode cX5_pairsBy 44 = .ok (.iaload, 1) := by decide +kernel
theorem dX5_pairsBy_45 : decode cX5_pairsBy 45 = .ok (.ixor, 1) := by decide +kernel
theorem dX5_pairsBy_46 : decode cX5_pairsBy 46 = .ok (.iload_n 1, 1) := by decide +kernel
theorem dX5_pairsBy_47 : decode cX5_pairsBy 47 = .ok (.if_icmp .ne 32, 3) := by decide +kernel
theorem dX5_pairsBy_50 : decode cX5_pairsBy 50 = .ok (.aload_n 0, 1) := by decide +kernel
theorem dX5_pairsBy_51 : decode cX5_pairsBy 51 = .ok (.getfield 15, 3) := by decide +kernel
theorem dX5_pairsBy_54 : decode cX5_pairsBy 54 = .ok (.iload 4, 2) := by decide +kernel
theorem dX5_pairsBy_56 : decode cX5_pairsBy 56 = .ok (.iaload, 1) := by decide +kernel
theorem dX5_pairsBy_57 : decode cX5_pairsBy 57 = .ok (.aload_n 0, 1) := by decide +kernel
theorem dX5_pairsBy_58 : decode cX5_pairsBy 58 = .ok (.getfield 15, 3) := by decide +kernel
theorem dX5_pairsBy_61 : decode cX5_pairsBy 61 = .ok (.iload 5, 2) := by decide +kernel
theorem dX5_pairsBy_63 : decode cX5_pairsBy 63 = .ok (.iaload, 1) := by decide +kernel
theorem dX5_pairsBy_64 : decode cX5_pairsBy 64 = .ok (.if_icmp .ne 7, 3) := by decide +kernel
theorem dX5_pairsBy_67 : decode cX5_pairsBy 67 = .ok (.iconst 1, 1) := by decide +kernel
theorem dX5_pairsBy_68 : decode cX5_pairsBy 68 = .ok (.goto 4, 3) := by decide +kernel
theorem dX5_pairsBy_71 : decode cX5_pairsBy 71 = .ok (.iconst 0, 1) := by decide +kernel
theorem dX5_pairsBy_72 : decode cX5_pairsBy 72 = .ok (.iload_n 2, 1) := by decide +kernel
theorem dX5_pairsBy_73 : decode cX5_pairsBy 73 = .ok (.if_icmp .ne 6, 3) := by decide +kernel
theorem dX5_pairsBy_76 : decode cX5_pairsBy 76 = .ok (.iinc 3 1, 3) := by decide +kernel
theorem dX5_pairsBy_79 : decode cX5_pairsBy 79 = .ok (.iinc 5 1, 3) := by decide +kernel
theorem dX5_pairsBy_82 : decode cX5_pairsBy 82 = .ok (.goto (-58), 3) := by decide +kernel
theorem dX5_pairsBy_85 : decode cX5_pairsBy 85 = .ok (.iinc 4 1, 3) := by decide +kernel
theorem dX5_pairsBy_88 : decode cX5_pairsBy 88 = .ok (.goto (-83), 3) := by decide +kernel
theorem dX5_pairsBy_91 : decode cX5_pairsBy 91 = .ok (.iload_n 3, 1) := by decide +kernel
theorem dX5_pairsBy_92 : decode cX5_pairsBy 92 = .ok (.ireturn, 1) := by decide +kernel
set_option maxRecDepth 20000 in
theorem ggX6_init_X0_init : GoodIn wsX6_init wsX0_init := goodIn_r _ [25, 26, 2, 3, 27, 28, 29, 30, 31, 32, 33, 34, 35, 36, 37, 38, 39, 40, 41, 42, 43, 44, 45, 46, 47, 48, 49, 102, 103, 104, 105, 67, 68, 106, 107, 108] (by decide +kernel) (by decide +kernel)
set_option maxRecDepth 20000 in
theorem gX6_init_X0_init_n9 : GoodIn wsX6_init (wsX0_init) := ggX6_init_X0_init
set_option maxRecDepth 20000 in
theorem ggX6_init_X3_init : GoodIn wsX6_init wsX3_init := goodIn_r _ [51, 52, 2, 3, 38, 53, 54, 55, 76, 77, 78, 79, 80, 81, 82, 83, 84, 85, 86, 87, 88, 89, 90, 91, 92, 93] (by decide +kernel) (by decide +kernel)
set_option maxRecDepth 20000 in
theorem gX6_init_X3_init_n26 : GoodIn wsX6_init (wsX3_init) := ggX6_init_X3_init
set_option maxRecDepth 20000 in
theorem ggX6_init_X1_init : GoodIn wsX6_init wsX1_init := goodIn_r _ [57, 58, 2, 3, 38, 59, 60, 94, 95, 96] (by decide +kernel) (by decide +kernel)
set_option maxRecDepth 20000 in
theorem gX6_init_X1_init_n33 : GoodIn wsX6_init (wsX1_init) := ggX6_init_X1_init
set_option maxRecDepth 20000 in
theorem ggX6_init_X4_init : GoodIn wsX6_init wsX4_init := goodIn_r _ [62, 63, 2, 3, 64, 32, 33, 65, 38, 66, 45, 46, 47, 48, 49, 106, 107, 108, 97, 98, 99, 100, 101] (by decide +kernel) (by decide +kernel)
set_option maxRecDepth 20000 in
theorem gX6_init_X4_init_n43 : GoodIn wsX6_init (wsX4_init) := ggX6_init_X4_init
theorem dX6_init_0 : decode cX6_init 0 = .ok (.aload_n 0, 1) := by decide +kernel
theorem dX6_init_1 : decode cX6_init 1 = .ok (.invokespecial 1, 3) := by decide +kernel
theorem dX6_init_4 : decode cX6_init 4 = .ok (.aload_n 0, 1) := by decide +kernel
theorem dX6_init_5 : decode cX6_init 5 = .ok (.new 7, 3) := by decide +kernel
theorem dX6_init_8 : decode cX6_init 8 = .ok (.dup, 1) := by decide +kernel
theorem dX6_init_9 : decode cX6_init 9 = .ok (.invokespecial 9, 3) := by decide +kernel
theorem dX6_init_12 : decode cX6_init 12 = .ok (.putfield 10, 3) := by decide +kernel
theorem dX6_init_15 : decode cX6_init 15 = .ok (.aload_n 0, 1) := by decide +kernel
theorem dX6_init_16 : decode cX6_init 16 = .ok (.iconst 2, 1) := by decide +kernel
theorem dX6_init_17 : decode cX6_init 17 = .ok (.anewarray 7, 3) := by decide +kernel
theorem dX6_init_20 : decode cX6_init 20 = .ok (.dup, 1) := by decide +kernel
theorem dX6_init_21 : decode cX6_init 21 = .ok (.iconst 0, 1) := by decide +kernel
theorem dX6_init_22 : decode cX6_init 22 = .ok (.new 7, 3) := by decide +kernel
theorem dX6_init_25 : decode cX6_init 25 = .ok (.dup, 1) := by decide +kernel
theorem dX6_init_26 : decode cX6_init 26 = .ok (.invokespecial 9, 3) := by decide +kernel
theorem dX6_init_29 : decode cX6_init 29 = .ok (.aastore, 1) := by decide +kernel
theorem dX6_init_30 : decode cX6_init 30 = .ok (.dup, 1) := by decide +kernel
theorem dX6_init_31 : decode cX6_init 31 = .ok (.iconst 1, 1) := by decide +kernel
theorem dX6_init_32 : decode cX6_init 32 = .ok (.new 7, 3) := by decide +kernel
theorem dX6_init_35 : decode cX6_init 35 = .ok (.dup, 1) := by decide +kernel
theorem dX6_init_36 : decode cX6_init 36 = .ok (.invokespecial 9, 3) := by decide +kernel
theorem dX6_init_39 : decode cX6_init 39 = .ok (.aastore, 1) := by decide +kernel
theorem dX6_init_40 : decode cX6_init 40 = .ok (.putfield 16, 3) := by decide +kernel
theorem dX6_init_43 : decode cX6_init 43 = .ok (.aload_n 0, 1) := by decide +kernel
theorem dX6_init_44 : decode cX6_init 44 = .ok (.iconst 2, 1) := by decide +kernel
theorem dX6_init_45 : decode cX6_init 45 = .ok (.newarray .boolean, 2) := by decide +kernel
theorem dX6_init_47 : decode cX6_init 47 = .ok (.putfield 20, 3) := by decide +kernel
theorem dX6_init_50 : decode cX6_init 50 = .ok (.aload_n 0, 1) := by decide +kernel
theorem dX6_init_51 : decode cX6_init 51 = .ok (.new 24, 3) := by decide +kernel
theorem dX6_init_54 : decode cX6_init 54 = .ok (.dup, 1) := by decide +kernel
theorem dX6_init_55 : decode cX6_init 55 = .ok (.invokespecial 26, 3) := by decide +kernel
theorem dX6_init_58 : decode cX6_init 58 = .ok (.putfield 27, 3) := by decide +kernel
theorem dX6_init_61 : decode cX6_init 61 = .ok (.aload_n 0, 1) := by decide +kernel
theorem dX6_init_62 : decode cX6_init 62 = .ok (.new 31, 3) := by decide +kernel
theorem dX6_init_65 : decode cX6_init 65 = .ok (.dup, 1) := by decide +kernel
theorem dX6_init_66 : decode cX6_init 66 = .ok (.invokespecial 33, 3) := by decide +kernel
theorem dX6_init_69 : decode cX6_init 69 = .ok (.putfield 34, 3) := by decide +kernel
theorem dX6_init_72 : decode cX6_init 72 = .ok (.aload_n 0, 1) := by decide +kernel
theorem dX6_init_73 : decode cX6_init 73 = .ok (.new 31, 3) := by decide +kernel
theorem dX6_init_76 : decode cX6_init 76 = .ok (.dup, 1) := by decide +kernel
theorem dX6_init_77 : decode cX6_init 77 = .ok (.invokespecial 33, 3) := by decide +kernel
theorem dX6_init_80 : decode cX6_init 80 = .ok (.putfield 38, 3) := by decide +kernel
theorem dX6_init_83 : decode cX6_init 83 = .ok (.aload_n 0, 1) := by decide +kernel
theorem dX6_init_84 : decode cX6_init 84 = .ok (.new 41, 3) := by decide +kernel
theorem dX6_init_87 : decode cX6_init 87 = .ok (.dup, 1) := by decide +kernel
theorem dX6_init_88 : decode cX6_init 88 = .ok (.invokespecial 43, 3) := by decide +kernel
theorem dX6_init_91 : decode cX6_init 91 = .ok (.putfield 44, 3) := by decide +kernel
theorem dX6_init_94 : decode cX6_init 94 = .ok (.return_, 1) := by decide +kernel
set_option maxRecDepth 20000 in
theorem ggX6_pail_X6_isPail : GoodIn wsX6_pail wsX6_isPail := goodIn_r _ [8, 9, 10, 7, 11] (by decide +kernel) (by decide +kernel)
set_option maxRecDepth 20000 in
theorem gX6_pail_X6_isPail : GoodIn wsX6_pail (va_wsS RX6 48 yX6_isPail wsX6_isPail) := goodIn_app (goodIn_of _ (by decide +kernel)) ggX6_pail_X6_isPail
set_option maxRecDepth 20000 in
theorem ggX6_pail_X6_within : GoodIn wsX6_pail wsX6_within := goodIn_r _ [11] (by decide +kernel) (by decide +kernel)
set_option maxRecDepth 20000 in
theorem gX6_pail_X6_within : GoodIn wsX6_pail (va_wsS RX6 52 yX6_within wsX6_within) := goodIn_app (goodIn_of _ (by decide +kernel)) ggX6_pail_X6_within
set_option maxRecDepth 20000 in
theorem ggX6_pail_X6_exchange : GoodIn wsX6_pail wsX6_exchange := goodIn_r _ [14] (by decide +kernel) (by decide +kernel)
set_option maxRecDepth 20000 in
theorem gX6_pail_X6_exchange : GoodIn wsX6_pail (va_wsS RX6 66 yX6_exchange wsX6_exchange) := goodIn_app (goodIn_of _ (by decide +kernel)) ggX6_pail_X6_exchange
theorem dX6_pail_0 : decode cX6_pail 0 = .ok (.iload_n 1, 1) := by decide +kernel
theorem dX6_pail_1 : decode cX6_pail 1 = .ok (.invokestatic 48, 3) := by decide +kernel
theorem dX6_pail_4 : decode cX6_pail 4 = .ok (.ifCond .ne 5, 3) := by decide +kernel
theorem dX6_pail_7 : decode cX6_pail 7 = .ok (.iconst (-1), 1) := by decide +kernel
theorem dX6_pail_8 : decode cX6_pail 8 = .ok (.ireturn, 1) := by decide +kernel
theorem dX6_pail_9 : decode cX6_pail 9 = .ok (.iload_n 2, 1) := by decide +kernel
theorem dX6_pail_10 : decode cX6_pail 10 = .ok (.ifCond .ne 29, 3) := by decide +kernel
theorem dX6_pail_13 : decode cX6_pail 13 = .ok (.iload_n 3, 1) := by decide +kernel
theorem dX6_pail_14 : decode cX6_pail 14 = .ok (.iconst 0, 1) := by decide +kernel
theorem dX6_pail_15 : decode cX6_pail 15 = .ok (.bipush 100, 2) := by decide +kernel
theorem dX6_pail_17 : decode cX6_pail 17 = .ok (.invokestatic 52, 3) := by decide +kernel
theorem dX6_pail_20 : decode cX6_pail 20 = .ok (.ifCond .eq 19, 3) := by decide +kernel
theorem dX6_pail_23 : decode cX6_pail 23 = .ok (.aload_n 0, 1) := by decide +kernel
theorem dX6_pail_24 : decode cX6_pail 24 = .ok (.getfield 10, 3) := by decide +kernel
theorem dX6_pail_27 : decode cX6_pail 27 = .ok (.getfield 56, 3) := by decide +kernel
theorem dX6_pail_30 : decode cX6_pail 30 = .ok (.getfield 60, 3) := by decide +kernel
theorem dX6_pail_33 : decode cX6_pail 33 = .ok (.iload_n 1, 1) := by decide +kernel
theorem dX6_pail_34 : decode cX6_pail 34 = .ok (.iload_n 3, 1) := by decide +kernel
theorem dX6_pail_35 : decode cX6_pail 35 = .ok (.invokestatic 66, 3) := by decide +kernel
theorem dX6_pail_38 : decode cX6_pail 38 = .ok (.ireturn, 1) := by decide +kernel
theorem dX6_pail_39 : decode cX6_pail 39 = .ok (.iload_n 2, 1) := by decide +kernel
theorem dX6_pail_40 : decode cX6_pail 40 = .ok (.iconst 1, 1) := by decide +kernel
theorem dX6_pail_41 : decode cX6_pail 41 = .ok (.if_icmp .ne 30, 3) := by decide +kernel
theorem dX6_pail_44 : decode cX6_pail 44 = .ok (.iload_n 3, 1) := by decide +kernel
theorem dX6_pail_45 : decode cX6_pail 45 = .ok (.bipush 10, 2) := by decide +kernel
theorem dX6_pail_47 : decode cX6_pail 47 = .ok (.bipush 100, 2) := by decide +kernel
theorem dX6_pail_49 : decode cX6_pail 49 = .ok (.invokestatic 52, 3) := by decide +kernel
theorem dX6_pail_52 : decode cX6_pail 52 = .ok (.ifCond .eq 19, 3) := by decide +kernel
theorem dX6_pail_55 : decode cX6_pail 55 = .ok (.aload_n 0, 1) := by decide +kernel
theorem dX6_pail_56 : decode cX6_pail 56 = .ok (.getfield 10, 3) := by decide +kernel
theorem dX6_pail_59 : decode cX6_pail 59 = .ok (.getfield 56, 3) := by decide +kernel
theorem dX6_pail_62 : decode cX6_pail 62 = .ok (.getfield 70, 3) := by decide +kernel
theorem dX6_pail_65 : decode cX6_pail 65 = .ok (.iload_n 1, 1) := by decide +kernel
theorem dX6_pail_66 : decode cX6_pail 66 = .ok (.iload_n 3, 1) := by decide +kernel
theorem dX6_pail_67 : decode cX6_pail 67 = .ok (.invokestatic 66, 3) := by decide +kernel
theorem dX6_pail_70 : decode cX6_pail 70 = .ok (.ireturn, 1) := by decide +kernel
theorem dX6_pail_71 : decode cX6_pail 71 = .ok (.bipush (-2), 2) := by decide +kernel
theorem dX6_pail_73 : decode cX6_pail 73 = .ok (.ireturn, 1) := by decide +kernel
set_option maxRecDepth 20000 in
theorem ggX6_row_X6_isPail : GoodIn wsX6_row wsX6_isPail := goodIn_r _ [10, 11, 12, 9, 13] (by decide +kernel) (by decide +kernel)
set_option maxRecDepth 20000 in
theorem gX6_row_X6_isPail : GoodIn wsX6_row (va_wsS RX6 48 yX6_isPail wsX6_isPail) := goodIn_app (goodIn_of _ (by decide +kernel)) ggX6_row_X6_isPail
theorem dX6_row_0 : decode cX6_row 0 = .ok (.iload_n 1, 1) := by decide +kernel
theorem dX6_row_1 : decode cX6_row 1 = .ok (.invokestatic 48, 3) := by decide +kernel
theorem dX6_row_4 : decode cX6_row 4 = .ok (.ifCond .ne 7, 3) := by decide +kernel
theorem dX6_row_7 : decode cX6_row 7 = .ok (.ldc2_w 73, 3) := by decide +kernel
theorem dX6_row_10 : decode cX6_row 10 = .ok (.lreturn, 1) := by decide +kernel
theorem dX6_row_11 : decode cX6_row 11 = .ok (.lload_n 2, 1) := by decide +kernel
theorem dX6_row_12 : decode cX6_row 12 = .ok (.lconst 1, 1) := by decide +kernel
theorem dX6_row_13 : decode cX6_row 13 = .ok (.lcmp, 1) := by decide +kernel
theorem dX6_row_14 : decode cX6_row 14 = .ok (.ifCond .lt 11, 3) := by decide +kernel
theorem dX6_row_17 : decode cX6_row 17 = .ok (.lload_n 2, 1) := by decide +kernel
theorem dX6_row_18 : decode cX6_row 18 = .ok (.ldc2_w 75, 3) := by decide +kernel
theorem dX6_row_21 : decode cX6_row 21 = .ok (.lcmp, 1) := by decide +kernel
theorem dX6_row_22 : decode cX6_row 22 = .ok (.ifCond .le 7, 3) := by decide +kernel
theorem dX6_row_25 : decode cX6_row 25 = .ok (.ldc2_w 77, 3) := by decide +kernel
theorem dX6_row_28 : decode cX6_row 28 = .ok (.lreturn, 1) := by decide +kernel
theorem dX6_row_29 : decode cX6_row 29 = .ok (.aload_n 0, 1) := by decide +kernel
theorem dX6_row_30 : decode cX6_row 30 = .ok (.getfield 10, 3) := by decide +kernel
theorem dX6_row_33 : decode cX6_row 33 = .ok (.getfield 56, 3) := by decide +kernel
theorem dX6_row_36 : decode cX6_row 36 = .ok (.getfield 79, 3) := by decide +kernel
theorem dX6_row_39 : decode cX6_row 39 = .ok (.iload_n 1, 1) := by decide +kernel
theorem dX6_row_40 : decode cX6_row 40 = .ok (.laload, 1) := by decide +kernel
theorem dX6_row_41 : decode cX6_row 41 = .ok (.lstore 4, 2) := by decide +kernel
theorem dX6_row_43 : decode cX6_row 43 = .ok (.aload_n 0, 1) := by decide +kernel
theorem dX6_row_44 : decode cX6_row 44 = .ok (.getfield 10, 3) := by decide +kernel
theorem dX6_row_47 : decode cX6_row 47 = .ok (.getfield 56, 3) := by decide +kernel
theorem dX6_row_50 : decode cX6_row 50 = .ok (.getfield 79, 3) := by decide +kernel
theorem dX6_row_53 : decode cX6_row 53 = .ok (.iload_n 1, 1) := by decide +kernel
theorem dX6_row_54 : decode cX6_row 54 = .ok (.lload_n 2, 1) := by decide +kernel
theorem dX6_row_55 : decode cX6_row 55 = .ok (.lastore, 1) := by decide +kernel
theorem dX6_row_56 : decode cX6_row 56 = .ok (.lload 4, 2) := by decide +kernel
theorem dX6_row_58 : decode cX6_row 58 = .ok (.lreturn, 1) := by decide +kernel
set_option maxRecDepth 20000 in
theorem ggX6_set_X6_within : GoodIn wsX6_set wsX6_within := goodIn_r _ [9] (by decide +kernel) (by decide +kernel)
set_option maxRecDepth 20000 in
theorem gX6_set_X6_within : GoodIn wsX6_set (va_wsS RX6 52 yX6_within wsX6_within) := goodIn_app (goodIn_of _ (by decide +kernel)) ggX6_set_X6_within
set_option maxRecDepth 20000 in
theorem ggX6_set_X6_exchange : GoodIn wsX6_set wsX6_exchange := goodIn_r _ [12] (by decide +kernel) (by decide +kernel)
set_option maxRecDepth 20000 in
theorem gX6_set_X6_exchange : GoodIn wsX6_set (va_wsS RX6 66 yX6_exchange wsX6_exchange) := goodIn_app (goodIn_of _ (by decide +kernel)) ggX6_set_X6_exchange
theorem dX6_set_0 : decode cX6_set 0 = .ok (.iload_n 1, 1) := by decide +kernel
theorem dX6_set_1 : decode cX6_set 1 = .ok (.iconst 0, 1) := by decide +kernel
theorem dX6_set_2 : decode cX6_set 2 = .ok (.bipush 10, 2) := by decide +kernel
theorem dX6_set_4 : decode cX6_set 4 = .ok (.invokestatic 52, 3) := by decide +kernel
theorem dX6_set_7 : decode cX6_set 7 = .ok (.ifCond .ne 6, 3) := by decide +kernel
theorem dX6_set_10 : decode cX6_set 10 = .ok (.bipush (-2), 2) := by decide +kernel
theorem dX6_set_12 : decode cX6_set 12 = .ok (.ireturn, 1) := by decide +kernel
theorem dX6_set_13 : decode cX6_set 13 = .ok (.iload_n 2, 1) := by decide +kernel
theorem dX6_set_14 : decode cX6_set 14 = .ok (.getstatic 83, 3) := by decide +kernel
theorem dX6_set_17 : decode cX6_set 17 = .ok (.iload_n 1, 1) := by decide +kernel
theorem dX6_set_18 : decode cX6_set 18 = .ok (.iaload, 1) := by decide +kernel
theorem dX6_set_19 : decode cX6_set 19 = .ok (.getstatic 86, 3) := by decide +kernel
theorem dX6_set_22 : decode cX6_set 22 = .ok (.iload_n 1, 1) := by decide +kernel
theorem dX6_set_23 : decode cX6_set 23 = .ok (.iaload, 1) := by decide +kernel
theorem dX6_set_24 : decode cX6_set 24 = .ok (.invokestatic 52, 3) := by decide +kernel
theorem dX6_set_27 : decode cX6_set 27 = .ok (.ifCond .ne 6, 3) := by decide +kernel
theorem dX6_set_30 : decode cX6_set 30 = .ok (.bipush (-2), 2) := by decide +kernel
theorem dX6_set_32 : decode cX6_set 32 = .ok (.ireturn, 1) := by decide +kernel
theorem dX6_set_33 : decode cX6_set 33 = .ok (.aload_n 0, 1) := by decide +kernel
theorem dX6_set_34 : decode cX6_set 34 = .ok (.getfield 10, 3) := by decide +kernel
theorem dX6_set_37 : decode cX6_set 37 = .ok (.getfield 56, 3) := by decide +kernel
theorem dX6_set_40 : decode cX6_set 40 = .ok (.getfield 89, 3) := by decide +kernel
theorem dX6_set_43 : decode cX6_set 43 = .ok (.iload_n 1, 1) := by decide +kernel
theorem dX6_set_44 : decode cX6_set 44 = .ok (.iload_n 2, 1) := by decide +kernel
theorem dX6_set_45 : decode cX6_set 45 = .ok (.invokestatic 66, 3) := by decide +kernel
theorem dX6_set_48 : decode cX6_set 48 = .ok (.ireturn, 1) := by decide +kernel
set_option maxRecDepth 20000 in
theorem ggX6_time_X6_isPail : GoodIn wsX6_time wsX6_isPail := goodIn_r _ [4, 5, 6, 3, 7] (by decide +kernel) (by decide +kernel)
set_option maxRecDepth 20000 in
theorem gX6_time_X6_isPail : GoodIn wsX6_time (va_wsS RX6 48 yX6_isPail wsX6_isPail) := goodIn_app (goodIn_of _ (by decide +kernel)) ggX6_time_X6_isPail
set_option maxRecDepth 20000 in
theorem ggX6_time_X6_isDegree : GoodIn wsX6_time wsX6_isDegree := goodIn_r _ [10, 5, 6, 3, 7] (by decide +kernel) (by decide +kernel)
set_option maxRecDepth 20000 in
theorem gX6_time_X6_isDegree : GoodIn wsX6_time (va_wsS RX6 92 yX6_isDegree wsX6_isDegree) := goodIn_app (goodIn_of _ (by decide +kernel)) ggX6_time_X6_isDegree
set_option maxRecDepth 20000 in
theorem ggX6_time_X6_isMeaning : GoodIn wsX6_time wsX6_isMeaning := goodIn_r _ [13, 5, 6, 3, 7] (by decide +kernel) (by decide +kernel)
set_option maxRecDepth 20000 in
theorem gX6_time_X6_isMeaning : GoodIn wsX6_time (va_wsS RX6 95 yX6_isMeaning wsX6_isMeaning) := goodIn_app (goodIn_of _ (by decide +kernel)) ggX6_time_X6_isMeaning
set_option maxRecDepth 20000 in
theorem ggX6_time_X6_causesAtWork : GoodIn wsX6_time wsX6_causesAtWork := goodIn_r _ [17, 18, 19, 20, 104, 105, 106, 107, 108, 109, 110, 111, 112, 113, 114, 115, 116] (by decide +kernel) (by decide +kernel)
set_option maxRecDepth 20000 in
theorem gX6_time_X6_causesAtWork : GoodIn wsX6_time (wsV RX6 98 RX6 yX6_causesAtWork wsX6_causesAtWork) := goodIn_app (goodIn_of _ (by decide +kernel)) ggX6_time_X6_causesAtWork
set_option maxRecDepth 20000 in
theorem ggX6_time_X6_timeOf : GoodIn wsX6_time wsX6_timeOf := goodIn_r _ [24, 25, 18, 19, 26, 27, 28, 29, 30, 31, 32, 33, 34, 35, 36, 37, 38, 39, 40, 41, 42, 43, 44, 45, 46, 47, 48, 49, 50, 51, 52, 53, 54, 6, 3, 7, 55, 56, 57, 58, 59, 60, 61, 62, 63, 64, 65, 66, 67, 68, 69, 70, 71, 72, 73, 74, 75, 76, 77, 78, 79, 80, 81, 82, 83, 84, 85, 86, 87, 88, 89, 90, 91, 92, 93, 94, 95, 96, 97, 98, 99, 100, 101, 102, 103, 104, 105, 106, 107, 108, 109, 110, 111, 112, 113, 114, 115, 116, 117, 118, 119, 120, 121, 122, 123, 124, 125, 126, 127, 128, 129, 130, 131, 132, 133, 134] (by decide +kernel) (by decide +kernel)
set_option maxRecDepth 20000 in
theorem gX6_time_X6_timeOf : GoodIn wsX6_time (wsV RX6 102 RX6 yX6_timeOf wsX6_timeOf) := goodIn_app (goodIn_of _ (by decide +kernel)) ggX6_time_X6_timeOf
theorem dX6_time_0 : decode cX6_time 0 = .ok (.iload_n 1, 1) := by decide +kernel
theorem dX6_time_1 : decode cX6_time 1 = .ok (.invokestatic 48, 3) := by decide +kernel
theorem dX6_time_4 : decode cX6_time 4 = .ok (.ifCond .ne 5, 3) := by decide +kernel
theorem dX6_time_7 : decode cX6_time 7 = .ok (.iconst (-1), 1) := by decide +kernel
theorem dX6_time_8 : decode cX6_time 8 = .ok (.ireturn, 1) := by decide +kernel
theorem dX6_time_9 : decode cX6_time 9 = .ok (.iload_n 2, 1) := by decide +kernel
theorem dX6_time_10 : decode cX6_time 10 = .ok (.invokestatic 92, 3) := by decide +kernel
theorem dX6_time_13 : decode cX6_time 13 = .ok (.ifCond .eq 10, 3) := by decide +kernel
theorem dX6_time_16 : decode cX6_time 16 = .ok (.iload_n 3, 1) := by decide +kernel
theorem dX6_time_17 : decode cX6_time 17 = .ok (.invokestatic 95, 3) := by decide +kernel
theorem dX6_time_20 : decode cX6_time 20 = .ok (.ifCond .ne 6, 3) := by decide +kernel
theorem dX6_time_23 : decode cX6_time 23 = .ok (.bipush (-2), 2) := by decide +kernel
theorem dX6_time_25 : decode cX6_time 25 = .ok (.ireturn, 1) := by decide +kernel
theorem dX6_time_26 : decode cX6_time 26 = .ok (.aload_n 0, 1) := by decide +kernel
theorem dX6_time_27 : decode cX6_time 27 = .ok (.iload_n 1, 1) := by decide +kernel
theorem dX6_time_28 : decode cX6_time 28 = .ok (.iload_n 2, 1) := by decide +kernel
theorem dX6_time_29 : decode cX6_time 29 = .ok (.iload_n 3, 1) := by decide +kernel
theorem dX6_time_30 : decode cX6_time 30 = .ok (.aload_n 0, 1) := by decide +kernel
theorem dX6_time_31 : decode cX6_time 31 = .ok (.invokevirtual 98, 3) := by decide +kernel
theorem dX6_time_34 : decode cX6_time 34 = .ok (.invokevirtual 102, 3) := by decide +kernel
theorem dX6_time_37 : decode cX6_time 37 = .ok (.ireturn, 1) := by decide +kernel
set_option maxRecDepth 20000 in
theorem ggX6_at_X6_isPail : GoodIn wsX6_at wsX6_isPail := goodIn_r _ [10, 11, 12, 9, 13] (by decide +kernel) (by decide +kernel)
set_option maxRecDepth 20000 in
theorem gX6_at_X6_isPail : GoodIn wsX6_at (va_wsS RX6 48 yX6_isPail wsX6_isPail) := goodIn_app (goodIn_of _ (by decide +kernel)) ggX6_at_X6_isPail
set_option maxRecDepth 20000 in
theorem ggX6_at_X6_isDegree : GoodIn wsX6_at wsX6_isDegree := goodIn_r _ [16, 11, 12, 9, 13] (by decide +kernel) (by decide +kernel)
set_option maxRecDepth 20000 in
theorem gX6_at_X6_isDegree : GoodIn wsX6_at (va_wsS RX6 92 yX6_isDegree wsX6_isDegree) := goodIn_app (goodIn_of _ (by decide +kernel)) ggX6_at_X6_isDegree
set_option maxRecDepth 20000 in
theorem ggX6_at_X6_within : GoodIn wsX6_at wsX6_within := goodIn_r _ [13] (by decide +kernel) (by decide +kernel)
set_option maxRecDepth 20000 in
theorem gX6_at_X6_within : GoodIn wsX6_at (va_wsS RX6 52 yX6_within wsX6_within) := goodIn_app (goodIn_of _ (by decide +kernel)) ggX6_at_X6_within
set_option maxRecDepth 20000 in
theorem ggX6_at_X6_causesAtWork : GoodIn wsX6_at wsX6_causesAtWork := goodIn_r _ [20, 4, 5, 21, 99, 100, 101, 102, 103, 104, 105, 106, 107, 108, 109, 110, 111] (by decide +kernel) (by decide +kernel)
set_option maxRecDepth 20000 in
theorem gX6_at_X6_causesAtWork : GoodIn wsX6_at (wsV RX6 98 RX6 yX6_causesAtWork wsX6_causesAtWork) := goodIn_app (goodIn_of _ (by decide +kernel)) ggX6_at_X6_causesAtWork
set_option maxRecDepth 20000 in
theorem ggX6_at_X3_fill : GoodIn wsX6_at wsX3_fill := goodIn_r _ [26, 27, 28, 29, 30, 31, 32, 33, 34, 35, 36, 37, 38, 39, 40, 41, 42, 43, 44, 45, 46, 47, 25, 48, 49, 12, 9, 13, 108, 109, 110, 111, 112, 113, 114, 115, 116, 117, 118, 119, 120, 121, 122, 123, 124, 125, 126, 127, 128, 129] (by decide +kernel) (by decide +kernel)
set_option maxRecDepth 20000 in
theorem gX6_at_X3_fill : GoodIn wsX6_at (wsV RX6 108 RX3 yX3_fill wsX3_fill) := goodIn_app (goodIn_of _ (by decide +kernel)) ggX6_at_X3_fill
set_option maxRecDepth 20000 in
theorem ggX6_at_X3_goOn : GoodIn wsX6_at wsX3_goOn := goodIn_r _ [53, 44, 54, 55, 56, 25, 57, 41, 28, 38, 32, 58, 59, 60, 61, 39, 33, 62, 43, 49, 63, 64, 65, 66, 30, 29, 31, 67, 68, 69, 70, 71, 36, 72, 73, 74, 75, 76, 77, 78, 79, 80, 81, 82, 83, 84, 85, 86, 42, 40, 35, 87, 88, 89, 90, 91, 92, 93, 94, 34, 112, 113, 114, 115, 116, 117, 118, 119, 120, 121, 122, 123, 124, 125, 126, 127, 128, 129] (by decide +kernel) (by decide +kernel)
set_option maxRecDepth 20000 in
theorem gX6_at_X3_goOn : GoodIn wsX6_at (wsV RX6 112 RX3 yX3_goOn wsX3_goOn) := goodIn_app (goodIn_of _ (by decide +kernel)) ggX6_at_X3_goOn
set_option maxRecDepth 20000 in
theorem ggX6_at_X3_shows : GoodIn wsX6_at wsX3_shows := goodIn_r _ [98, 28, 38, 39, 40, 12, 9, 13, 112, 113, 114, 115, 116, 117, 118, 119, 120, 121, 122, 123, 124, 125, 126, 127, 128, 129] (by decide +kernel) (by decide +kernel)
set_option maxRecDepth 20000 in
theorem gX6_at_X3_shows : GoodIn wsX6_at (wsV RX6 116 RX3 yX3_shows wsX3_shows) := goodIn_app (goodIn_of _ (by decide +kernel)) ggX6_at_X3_shows
theorem dX6_at_0 : decode cX6_at 0 = .ok (.iload_n 1, 1) := by decide +kernel
theorem dX6_at_1 : decode cX6_at 1 = .ok (.invokestatic 48, 3) := by decide +kernel
theorem dX6_at_4 : decode cX6_at 4 = .ok (.ifCond .ne 6, 3) := by decide +kernel
theorem dX6_at_7 : decode cX6_at 7 = .ok (.ldc 106, 2) := by decide +kernel
theorem dX6_at_9 : decode cX6_at 9 = .ok (.ireturn, 1) := by decide +kernel
theorem dX6_at_10 : decode cX6_at 10 = .ok (.iload_n 2, 1) := by decide +kernel
theorem dX6_at_11 : decode cX6_at 11 = .ok (.invokestatic 92, 3) := by decide +kernel
theorem dX6_at_14 : decode cX6_at 14 = .ok (.ifCond .eq 25, 3) := by decide +kernel
theorem dX6_at_17 : decode cX6_at 17 = .ok (.iload_n 3, 1) := by decide +kernel
theorem dX6_at_18 : decode cX6_at 18 = .ok (.iconst 0, 1) := by decide +kernel
theorem dX6_at_19 : decode cX6_at 19 = .ok (.sipush 600, 3) := by decide +kernel
theorem dX6_at_22 : decode cX6_at 22 = .ok (.invokestatic 52, 3) := by decide +kernel
theorem dX6_at_25 : decode cX6_at 25 = .ok (.ifCond .eq 14, 3) := by decide +kernel
theorem dX6_at_28 : decode cX6_at 28 = .ok (.iload 4, 2) := by decide +kernel
theorem dX6_at_30 : decode cX6_at 30 = .ok (.iconst 0, 1) := by decide +kernel
theorem dX6_at_31 : decode cX6_at 31 = .ok (.bipush 6, 2) := by decide +kernel
theorem dX6_at_33 : decode cX6_at 33 = .ok (.invokestatic 52, 3) := by decide +kernel
theorem dX6_at_36 : decode cX6_at 36 = .ok (.ifCond .ne 6, 3) := by decide +kernel
theorem dX6_at_39 : decode cX6_at 39 = .ok (.ldc 107, 2) := by decide +kernel
theorem dX6_at_41 : decode cX6_at 41 = .ok (.ireturn, 1) := by decide +kernel
theorem dX6_at_42 : decode cX6_at 42 = .ok (.aload_n 0, 1) := by decide +kernel
theorem dX6_at_43 : decode cX6_at 43 = .ok (.getfield 27, 3) := by decide +kernel
theorem dX6_at_46 : decode cX6_at 46 = .ok (.aload_n 0, 1) := by decide +kernel
theorem dX6_at_47 : decode cX6_at 47 = .ok (.getfield 10, 3) := by decide +kernel
theorem dX6_at_50 : decode cX6_at 50 = .ok (.getfield 56, 3) := by decide +kernel
theorem dX6_at_53 : decode cX6_at 53 = .ok (.iload_n 1, 1) := by decide +kernel
theorem dX6_at_54 : decode cX6_at 54 = .ok (.aload_n 0, 1) := by decide +kernel
theorem dX6_at_55 : decode cX6_at 55 = .ok (.getfield 10, 3) := by decide +kernel
theorem dX6_at_58 : decode cX6_at 58 = .ok (.getfield 56, 3) := by decide +kernel
theorem dX6_at_61 : decode cX6_at 61 = .ok (.getfield 60, 3) := by decide +kernel
theorem dX6_at_64 : decode cX6_at 64 = .ok (.iload_n 1, 1) := by decide +kernel
theorem dX6_at_65 : decode cX6_at 65 = .ok (.iaload, 1) := by decide +kernel
theorem dX6_at_66 : decode cX6_at 66 = .ok (.iload_n 2, 1) := by decide +kernel
theorem dX6_at_67 : decode cX6_at 67 = .ok (.aload_n 0, 1) := by decide +kernel
theorem dX6_at_68 : decode cX6_at 68 = .ok (.invokevirtual 98, 3) := by decide +kernel
theorem dX6_at_71 : decode cX6_at 71 = .ok (.invokevirtual 108, 3) := by decide +kernel
theorem dX6_at_74 : decode cX6_at 74 = .ok (.aload_n 0, 1) := by decide +kernel
theorem dX6_at_75 : decode cX6_at 75 = .ok (.getfield 27, 3) := by decide +kernel
theorem dX6_at_78 : decode cX6_at 78 = .ok (.iload_n 3, 1) := by decide +kernel
theorem dX6_at_79 : decode cX6_at 79 = .ok (.invokevirtual 112, 3) := by decide +kernel
theorem dX6_at_82 : decode cX6_at 82 = .ok (.aload_n 0, 1) := by decide +kernel
theorem dX6_at_83 : decode cX6_at 83 = .ok (.getfield 27, 3) := by decide +kernel
theorem dX6_at_86 : decode cX6_at 86 = .ok (.iload 4, 2) := by decide +kernel
theorem dX6_at_88 : decode cX6_at 88 = .ok (.invokevirtual 116, 3) := by decide +kernel
theorem dX6_at_91 : decode cX6_at 91 = .ok (.ireturn, 1) := by decide +kernel
set_option maxRecDepth 20000 in
theorem ggX6_glass_X6_isPail : GoodIn wsX6_glass wsX6_isPail := goodIn_r _ [8, 9, 10, 7, 11] (by decide +kernel) (by decide +kernel)
set_option maxRecDepth 20000 in
theorem gX6_glass_X6_isPail : GoodIn wsX6_glass (va_wsS RX6 48 yX6_isPail wsX6_isPail) := goodIn_app (goodIn_of _ (by decide +kernel)) ggX6_glass_X6_isPail
set_option maxRecDepth 20000 in
theorem ggX6_glass_X6_within : GoodIn wsX6_glass wsX6_within := goodIn_r _ [11] (by decide +kernel) (by decide +kernel)
set_option maxRecDepth 20000 in
theorem gX6_glass_X6_within : GoodIn wsX6_glass (va_wsS RX6 52 yX6_within wsX6_within) := goodIn_app (goodIn_of _ (by decide +kernel)) ggX6_glass_X6_within
set_option maxRecDepth 20000 in
theorem ggX6_glass_X6_isDegree : GoodIn wsX6_glass wsX6_isDegree := goodIn_r _ [14, 9, 10, 7, 11] (by decide +kernel) (by decide +kernel)
set_option maxRecDepth 20000 in
theorem gX6_glass_X6_isDegree : GoodIn wsX6_glass (va_wsS RX6 92 yX6_isDegree wsX6_isDegree) := goodIn_app (goodIn_of _ (by decide +kernel)) ggX6_glass_X6_isDegree
set_option maxRecDepth 20000 in
theorem ggX6_glass_X6_causesAtWork : GoodIn wsX6_glass wsX6_causesAtWork := goodIn_r _ [18, 2, 3, 19, 98, 99, 100, 101, 102, 103, 104, 105, 106, 107, 108, 109, 110] (by decide +kernel) (by decide +kernel)
set_option maxRecDepth 20000 in
theorem gX6_glass_X6_causesAtWork : GoodIn wsX6_glass (wsV RX6 98 RX6 yX6_causesAtWork wsX6_causesAtWork) := goodIn_app (goodIn_of _ (by decide +kernel)) ggX6_glass_X6_causesAtWork
set_option maxRecDepth 20000 in
theorem ggX6_glass_X3_fill : GoodIn wsX6_glass wsX3_fill := goodIn_r _ [24, 25, 26, 27, 28, 29, 30, 31, 32, 33, 34, 35, 36, 37, 38, 39, 40, 41, 42, 43, 44, 45, 23, 46, 47, 10, 7, 11, 107, 108, 109, 110, 111, 112, 113, 114, 115, 116, 117, 118, 119, 120, 121, 122, 123, 124, 125, 126, 127, 128] (by decide +kernel) (by decide +kernel)
set_option maxRecDepth 20000 in
theorem gX6_glass_X3_fill : GoodIn wsX6_glass (wsV RX6 108 RX3 yX3_fill wsX3_fill) := goodIn_app (goodIn_of _ (by decide +kernel)) ggX6_glass_X3_fill
set_option maxRecDepth 20000 in
theorem ggX6_glass_X3_putGlass : GoodIn wsX6_glass wsX3_putGlass := goodIn_r _ [46, 47, 10, 7, 11, 111, 112, 113, 114, 115, 116, 117, 118, 119, 120, 121, 122, 123, 124, 125, 126, 127, 128] (by decide +kernel) (by decide +kernel)
set_option maxRecDepth 20000 in
theorem gX6_glass_X3_putGlass : GoodIn wsX6_glass (wsV RX6 120 RX3 yX3_putGlass wsX3_putGlass) := goodIn_app (goodIn_of _ (by decide +kernel)) ggX6_glass_X3_putGlass
set_option maxRecDepth 20000 in
theorem ggX6_glass_X3_timeBy : GoodIn wsX6_glass wsX3_timeBy := goodIn_r _ [52, 42, 53, 54, 55, 23, 56, 40, 41, 57, 58, 59, 60, 39, 26, 36, 30, 61, 62, 63, 64, 37, 31, 65, 47, 66, 67, 68, 69, 28, 27, 29, 70, 71, 72, 73, 74, 34, 75, 76, 77, 78, 79, 80, 81, 82, 83, 84, 85, 86, 87, 88, 89, 38, 33, 90, 91, 92, 93, 94, 95, 96, 97, 32, 111, 112, 113, 114, 115, 116, 117, 118, 119, 120, 121, 122, 123, 124, 125, 126, 127, 128] (by decide +kernel) (by decide +kernel)
set_option maxRecDepth 20000 in
theorem gX6_glass_X3_timeBy : GoodIn wsX6_glass (wsV RX6 123 RX3 yX3_timeBy wsX3_timeBy) := goodIn_app (goodIn_of _ (by decide +kernel)) ggX6_glass_X3_timeBy
theorem dX6_glass_0 : decode cX6_glass 0 = .ok (.iload_n 1, 1) := by decide +kernel
theorem dX6_glass_1 : decode cX6_glass 1 = .ok (.invokestatic 48, 3) := by decide +kernel
theorem dX6_glass_4 : decode cX6_glass 4 = .ok (.ifCond .eq 12, 3) := by decide +kernel
theorem dX6_glass_7 : decode cX6_glass 7 = .ok (.iload_n 3, 1) := by decide +kernel
theorem dX6_glass_8 : decode cX6_glass 8 = .ok (.iconst 0, 1) := by decide +kernel
theorem dX6_glass_9 : decode cX6_glass 9 = .ok (.iconst 3, 1) := by decide +kernel
theorem dX6_glass_10 : decode cX6_glass 10 = .ok (.invokestatic 52, 3) := by decide +kernel
theorem dX6_glass_13 : decode cX6_glass 13 = .ok (.ifCond .ne 5, 3) := by decide +kernel
theorem dX6_glass_16 : decode cX6_glass 16 = .ok (.iconst (-1), 1) := by decide +kernel
theorem dX6_glass_17 : decode cX6_glass 17 = .ok (.ireturn, 1) := by decide +kernel
theorem dX6_glass_18 : decode cX6_glass 18 = .ok (.iload_n 2, 1) := by decide +kernel
theorem dX6_glass_19 : decode cX6_glass 19 = .ok (.invokestatic 92, 3) := by decide +kernel
theorem dX6_glass_22 : decode cX6_glass 22 = .ok (.ifCond .ne 6, 3) := by decide +kernel
theorem dX6_glass_25 : decode cX6_glass 25 = .ok (.bipush (-2), 2) := by decide +kernel
theorem dX6_glass_27 : decode cX6_glass 27 = .ok (.ireturn, 1) := by decide +kernel
theorem dX6_glass_28 : decode cX6_glass 28 = .ok (.aload_n 0, 1) := by decide +kernel
theorem dX6_glass_29 : decode cX6_glass 29 = .ok (.getfield 27, 3) := by decide +kernel
theorem dX6_glass_32 : decode cX6_glass 32 = .ok (.aload_n 0, 1) := by decide +kernel
theorem dX6_glass_33 : decode cX6_glass 33 = .ok (.getfield 10, 3) := by decide +kernel
theorem dX6_glass_36 : decode cX6_glass 36 = .ok (.getfield 56, 3) := by decide +kernel
theorem dX6_glass_39 : decode cX6_glass 39 = .ok (.iload_n 1, 1) := by decide +kernel
theorem dX6_glass_40 : decode cX6_glass 40 = .ok (.aload_n 0, 1) := by decide +kernel
theorem dX6_glass_41 : decode cX6_glass 41 = .ok (.getfield 10, 3) := by decide +kernel
theorem dX6_glass_44 : decode cX6_glass 44 = .ok (.getfield 56, 3) := by decide +kernel
theorem dX6_glass_47 : decode cX6_glass 47 = .ok (.getfield 60, 3) := by decide +kernel
theorem dX6_glass_50 : decode cX6_glass 50 = .ok (.iload_n 1, 1) := by decide +kernel
theorem dX6_glass_51 : decode cX6_glass 51 = .ok (.iaload, 1) := by decide +kernel
theorem dX6_glass_52 : decode cX6_glass 52 = .ok (.iload_n 2, 1) := by decide +kernel
theorem dX6_glass_53 : decode cX6_glass 53 = .ok (.aload_n 0, 1) := by decide +kernel
theorem dX6_glass_54 : decode cX6_glass 54 = .ok (.invokevirtual 98, 3) := by decide +kernel
theorem dX6_glass_57 : decode cX6_glass 57 = .ok (.invokevirtual 108, 3) := by decide +kernel
theorem dX6_glass_60 : decode cX6_glass 60 = .ok (.aload_n 0, 1) := by decide +kernel
theorem dX6_glass_61 : decode cX6_glass 61 = .ok (.getfield 27, 3) := by decide +kernel
theorem dX6_glass_64 : decode cX6_glass 64 = .ok (.iload_n 3, 1) := by decide +kernel
theorem dX6_glass_65 : decode cX6_glass 65 = .ok (.invokevirtual 120, 3) := by decide +kernel
theorem dX6_glass_68 : decode cX6_glass 68 = .ok (.aload_n 0, 1) := by decide +kernel
theorem dX6_glass_69 : decode cX6_glass 69 = .ok (.getfield 27, 3) := by decide +kernel
theorem dX6_glass_72 : decode cX6_glass 72 = .ok (.iconst 1, 1) := by decide +kernel
theorem dX6_glass_73 : decode cX6_glass 73 = .ok (.sipush 600, 3) := by decide +kernel
theorem dX6_glass_76 : decode cX6_glass 76 = .ok (.invokevirtual 123, 3) := by decide +kernel
theorem dX6_glass_79 : decode cX6_glass 79 = .ok (.ireturn, 1) := by decide +kernel
set_option maxRecDepth 20000 in
theorem ggX6_first_X6_isMeaning : GoodIn wsX6_first wsX6_isMeaning := goodIn_r _ [4, 5, 6, 3, 7] (by decide +kernel) (by decide +kernel)
set_option maxRecDepth 20000 in
theorem gX6_first_X6_isMeaning : GoodIn wsX6_first (va_wsS RX6 95 yX6_isMeaning wsX6_isMeaning) := goodIn_app (goodIn_of _ (by decide +kernel)) ggX6_first_X6_isMeaning
set_option maxRecDepth 20000 in
theorem ggX6_first_X6_isDegree : GoodIn wsX6_first wsX6_isDegree := goodIn_r _ [10, 5, 6, 3, 7] (by decide +kernel) (by decide +kernel)
set_option maxRecDepth 20000 in
theorem gX6_first_X6_isDegree : GoodIn wsX6_first (va_wsS RX6 92 yX6_isDegree wsX6_isDegree) := goodIn_app (goodIn_of _ (by decide +kernel)) ggX6_first_X6_isDegree
set_option maxRecDepth 20000 in
theorem ggX6_first_X6_causesAtWork : GoodIn wsX6_first wsX6_causesAtWork := goodIn_r _ [14, 15, 16, 17, 104, 105, 106, 107, 108, 109, 110, 111, 112, 113, 114, 115, 116] (by decide +kernel) (by decide +kernel)
set_option maxRecDepth 20000 in
theorem gX6_first_X6_causesAtWork : GoodIn wsX6_first (wsV RX6 98 RX6 yX6_causesAtWork wsX6_causesAtWork) := goodIn_app (goodIn_of _ (by decide +kernel)) ggX6_first_X6_causesAtWork
set_option maxRecDepth 20000 in
theorem ggX6_first_X6_timeOf : GoodIn wsX6_first wsX6_timeOf := goodIn_r _ [21, 22, 15, 16, 23, 24, 25, 26, 27, 28, 29, 30, 31, 32, 33, 34, 35, 36, 37, 38, 39, 40, 41, 42, 43, 44, 45, 46, 47, 48, 49, 50, 51, 6, 3, 7, 52, 53, 54, 55, 56, 57, 58, 59, 60, 61, 62, 63, 64, 65, 66, 67, 68, 69, 70, 71, 72, 73, 74, 75, 76, 77, 78, 79, 80, 81, 82, 83, 84, 85, 86, 87, 88, 89, 90, 91, 92, 93, 94, 95, 96, 97, 98, 99, 100, 104, 105, 106, 107, 108, 109, 110, 111, 112, 113, 114, 115, 116, 117, 118, 119, 120, 121, 122, 123, 124, 125, 126, 127, 128, 129, 130, 131, 132, 133, 134] (by decide +kernel) (by decide +kernel)
set_option maxRecDepth 20000 in
theorem gX6_first_X6_timeOf : GoodIn wsX6_first (wsV RX6 102 RX6 yX6_timeOf wsX6_timeOf) := goodIn_app (goodIn_of _ (by decide +kernel)) ggX6_first_X6_timeOf
set_option maxRecDepth 20000 in
theorem ggX6_first_X6_earlier : GoodIn wsX6_first wsX6_earlier := goodIn_r _ [103] (by decide +kernel) (by decide +kernel)
set_option maxRecDepth 20000 in
theorem gX6_first_X6_earlier : GoodIn wsX6_first (va_wsS RX6 127 yX6_earlier wsX6_earlier) := goodIn_app (goodIn_of _ (by decide +kernel)) ggX6_first_X6_earlier
theorem dX6_first_0 : decode cX6_first 0 = .ok (.iload_n 1, 1) := by decide +kernel
theorem dX6_first_1 : decode cX6_first 1 = .ok (.invokestatic 95, 3) := by decide +kernel
theorem dX6_first_4 : decode cX6_first 4 = .ok (.ifCond .eq 17, 3) := by decide +kernel
theorem dX6_first_7 : decode cX6_first 7 = .ok (.iload_n 2, 1) := by decide +kernel
theorem dX6_first_8 : decode cX6_first 8 = .ok (.invokestatic 92, 3) := by decide +kernel
theorem dX6_first_11 : decode cX6_first 11 = .ok (.ifCond .eq 10, 3) := by decide +kernel
theorem dX6_first_14 : decode cX6_first 14 = .ok (.iload_n 3, 1) := by decide +kernel
theorem dX6_first_15 : decode cX6_first 15 = .ok (.invokestatic 92, 3) := by decide +kernel
theorem dX6_first_18 : decode cX6_first 18 = .ok (.ifCond .ne 6, 3) := by decide +kernel
theorem dX6_first_21 : decode cX6_first 21 = .ok (.bipush (-2), 2) := by decide +kernel
theorem dX6_first_23 : decode cX6_first 23 = .ok (.ireturn, 1) := by decide +kernel
theorem dX6_first_24 : decode cX6_first 24 = .ok (.aload_n 0, 1) := by decide +kernel
theorem dX6_first_25 : decode cX6_first 25 = .ok (.iconst 0, 1) := by decide +kernel
theorem dX6_first_26 : decode cX6_first 26 = .ok (.iload_n 2, 1) := by decide +kernel
theorem dX6_first_27 : decode cX6_first 27 = .ok (.iload_n 1, 1) := by decide +kernel
theorem dX6_first_28 : decode cX6_first 28 = .ok (.aload_n 0, 1) := by decide +kernel
theorem dX6_first_29 : decode cX6_first 29 = .ok (.invokevirtual 98, 3) := by decide +kernel
theorem dX6_first_32 : decode cX6_first 32 = .ok (.invokevirtual 102, 3) := by decide +kernel
theorem dX6_first_35 : decode cX6_first 35 = .ok (.istore 4, 2) := by decide +kernel
theorem dX6_first_37 : decode cX6_first 37 = .ok (.aload_n 0, 1) := by decide +kernel
theorem dX6_first_38 : decode cX6_first 38 = .ok (.iconst 1, 1) := by decide +kernel
theorem dX6_first_39 : decode cX6_first 39 = .ok (.iload_n 3, 1) := by decide +kernel
theorem dX6_first_40 : decode cX6_first 40 = .ok (.iload_n 1, 1) := by decide +kernel
theorem dX6_first_41 : decode cX6_first 41 = .ok (.aload_n 0, 1) := by decide +kernel
theorem dX6_first_42 : decode cX6_first 42 = .ok (.invokevirtual 98, 3) := by decide +kernel
theorem dX6_first_45 : decode cX6_first 45 = .ok (.invokevirtual 102, 3) := by decide +kernel
theorem dX6_first_48 : decode cX6_first 48 = .ok (.istore 5, 2) := by decide +kernel
theorem dX6_first_50 : decode cX6_first 50 = .ok (.iload 4, 2) := by decide +kernel
theorem dX6_first_52 : decode cX6_first 52 = .ok (.iload 5, 2) := by decide +kernel
theorem dX6_first_54 : decode cX6_first 54 = .ok (.invokestatic 127, 3) := by decide +kernel
theorem dX6_first_57 : decode cX6_first 57 = .ok (.ireturn, 1) := by decide +kernel
set_option maxRecDepth 20000 in
theorem ggX6_odds_X6_isMeaning : GoodIn wsX6_odds wsX6_isMeaning := goodIn_r _ [10, 11, 12, 9, 13] (by decide +kernel) (by decide +kernel)
set_option maxRecDepth 20000 in
theorem gX6_odds_X6_isMeaning : GoodIn wsX6_odds (va_wsS RX6 95 yX6_isMeaning wsX6_isMeaning) := goodIn_app (goodIn_of _ (by decide +kernel)) ggX6_odds_X6_isMeaning
set_option maxRecDepth 20000 in
theorem ggX6_odds_X6_isFirst : GoodIn wsX6_odds wsX6_isFirst := goodIn_r _ [16, 11, 12, 9, 13] (by decide +kernel) (by decide +kernel)
set_option maxRecDepth 20000 in
theorem gX6_odds_X6_isFirst : GoodIn wsX6_odds (va_wsS RX6 130 yX6_isFirst wsX6_isFirst) := goodIn_app (goodIn_of _ (by decide +kernel)) ggX6_odds_X6_isFirst
set_option maxRecDepth 20000 in
theorem ggX6_odds_X6_isPart : GoodIn wsX6_odds wsX6_isPart := goodIn_r _ [19, 11, 12, 9, 13] (by decide +kernel) (by decide +kernel)
set_option maxRecDepth 20000 in
theorem gX6_odds_X6_isPart : GoodIn wsX6_odds (va_wsS RX6 133 yX6_isPart wsX6_isPart) := goodIn_app (goodIn_of _ (by decide +kernel)) ggX6_odds_X6_isPart
set_option maxRecDepth 20000 in
theorem ggX6_odds_X6_readNeedles : GoodIn wsX6_odds wsX6_readNeedles := goodIn_r _ [23, 24, 25, 26, 5, 4, 27, 28, 29, 30, 31, 32, 33, 34, 35, 36, 37, 9, 38, 39, 40, 41, 42, 43, 44, 45, 46, 47, 48, 49, 50, 51, 52, 53, 54, 55, 56, 57, 58, 59, 60, 61, 62, 63, 64, 65, 66, 67, 68, 69, 70, 71, 72, 73, 12, 13, 74, 75, 76, 77, 78, 79, 80, 81, 82, 83, 84, 85, 86, 87, 88, 89, 90, 91, 92, 93, 94, 95, 96, 97, 98, 99, 100, 101, 102, 103, 104, 105, 106, 107, 108, 109, 110, 111, 112, 113, 114, 115, 116, 117, 118, 119, 120, 121, 122, 132, 133, 134, 135, 136, 137, 138, 142, 143, 144, 145, 146, 147, 139, 140, 141, 148, 149, 150, 151, 152, 153, 154, 155, 156, 157, 158, 159, 160, 161, 162, 163, 164, 165] (by decide +kernel) (by decide +kernel)
set_option maxRecDepth 20000 in
theorem gX6_odds_X6_readNeedles : GoodIn wsX6_odds (wsV RX6 138 RX6 yX6_readNeedles wsX6_readNeedles) := goodIn_app (goodIn_of _ (by decide +kernel)) ggX6_odds_X6_readNeedles
set_option maxRecDepth 20000 in
theorem ggX6_odds_X6_earlier : GoodIn wsX6_odds wsX6_earlier := goodIn_r _ [125] (by decide +kernel) (by decide +kernel)
set_option maxRecDepth 20000 in
theorem gX6_odds_X6_earlier : GoodIn wsX6_odds (va_wsS RX6 127 yX6_earlier wsX6_earlier) := goodIn_app (goodIn_of _ (by decide +kernel)) ggX6_odds_X6_earlier
set_option maxRecDepth 20000 in
theorem ggX6_odds_X6_partOf : GoodIn wsX6_odds wsX6_partOf := goodIn_r _ [128, 129, 130, 9, 131] (by decide +kernel) (by decide +kernel)
set_option maxRecDepth 20000 in
theorem gX6_odds_X6_partOf : GoodIn wsX6_odds (va_wsS RX6 152 yX6_partOf wsX6_partOf) := goodIn_app (goodIn_of _ (by decide +kernel)) ggX6_odds_X6_partOf
theorem dX6_odds_0 : decode cX6_odds 0 = .ok (.iload_n 1, 1) := by decide +kernel
theorem dX6_odds_1 : decode cX6_odds 1 = .ok (.invokestatic 95, 3) := by decide +kernel
theorem dX6_odds_4 : decode cX6_odds 4 = .ok (.ifCond .eq 17, 3) := by decide +kernel
theorem dX6_odds_7 : decode cX6_odds 7 = .ok (.iload_n 2, 1) := by decide +kernel
theorem dX6_odds_8 : decode cX6_odds 8 = .ok (.invokestatic 130, 3) := by decide +kernel
theorem dX6_odds_11 : decode cX6_odds 11 = .ok (.ifCond .eq 10, 3) := by decide +kernel
theorem dX6_odds_14 : decode cX6_odds 14 = .ok (.iload_n 3, 1) := by decide +kernel
theorem dX6_odds_15 : decode cX6_odds 15 = .ok (.invokestatic 133, 3) := by decide +kernel
theorem dX6_odds_18 : decode cX6_odds 18 = .ok (.ifCond .ne 7, 3) := by decide +kernel
theorem dX6_odds_21 : decode cX6_odds 21 = .ok (.ldc2_w 136, 3) := by decide +kernel
theorem dX6_odds_24 : decode cX6_odds 24 = .ok (.lreturn, 1) := by decide +kernel
theorem dX6_odds_25 : decode cX6_odds 25 = .ok (.aload_n 0, 1) := by decide +kernel
theorem dX6_odds_26 : decode cX6_odds 26 = .ok (.aload_n 0, 1) := by decide +kernel
theorem dX6_odds_27 : decode cX6_odds 27 = .ok (.getfield 34, 3) := by decide +kernel
theorem dX6_odds_30 : decode cX6_odds 30 = .ok (.iconst 0, 1) := by decide +kernel
theorem dX6_odds_31 : decode cX6_odds 31 = .ok (.iload_n 1, 1) := by decide +kernel
theorem dX6_odds_32 : decode cX6_odds 32 = .ok (.invokevirtual 138, 3) := by decide +kernel
theorem dX6_odds_35 : decode cX6_odds 35 = .ok (.aload_n 0, 1) := by decide +kernel
theorem dX6_odds_36 : decode cX6_odds 36 = .ok (.aload_n 0, 1) := by decide +kernel
theorem dX6_odds_37 : decode cX6_odds 37 = .ok (.getfield 38, 3) := by decide +kernel
theorem dX6_odds_40 : decode cX6_odds 40 = .ok (.iconst 1, 1) := by decide +kernel
theorem dX6_odds_41 : decode cX6_odds 41 = .ok (.iload_n 1, 1) := by decide +kernel
theorem dX6_odds_42 : decode cX6_odds 42 = .ok (.invokevirtual 138, 3) := by decide +kernel
theorem dX6_odds_45 : decode cX6_odds 45 = .ok (.lconst 0, 1) := by decide +kernel
theorem dX6_odds_46 : decode cX6_odds 46 = .ok (.lstore 4, 2) := by decide +kernel
theorem dX6_odds_48 : decode cX6_odds 48 = .ok (.iconst 0, 1) := by decide +kernel
theorem dX6_odds_49 : decode cX6_odds 49 = .ok (.istore 6, 2) := by decide +kernel
theorem dX6_odds_51 : decode cX6_odds 51 = .ok (.iload 6, 2) := by decide +kernel
theorem dX6_odds_53 : decode cX6_odds 53 = .ok (.bipush 10, 2) := by decide +kernel
theorem dX6_odds_55 : decode cX6_odds 55 = .ok (.if_icmp .ge 80, 3) := by decide +kernel
theorem dX6_odds_58 : decode cX6_odds 58 = .ok (.iconst 0, 1) := by decide +kernel
theorem dX6_odds_59 : decode cX6_odds 59 = .ok (.istore 7, 2) := by decide +kernel
theorem dX6_odds_61 : decode cX6_odds 61 = .ok (.iload 7, 2) := by decide +kernel
theorem dX6_odds_63 : decode cX6_odds 63 = .ok (.bipush 10, 2) := by decide +kernel
theorem dX6_odds_65 : decode cX6_odds 65 = .ok (.if_icmp .ge 64, 3) := by decide +kernel
theorem dX6_odds_68 : decode cX6_odds 68 = .ok (.aload_n 0, 1) := by decide +kernel
theorem dX6_odds_69 : decode cX6_odds 69 = .ok (.getfield 34, 3) := by decide +kernel
theorem dX6_odds_72 : decode cX6_odds 72 = .ok (.getfield 142, 3) := by decide +kernel
theorem dX6_odds_75 : decode cX6_odds 75 = .ok (.iload 6, 2) := by decide +kernel
theorem dX6_odds_77 : decode cX6_odds 77 = .ok (.iaload, 1) := by decide +kernel
theorem dX6_odds_78 : decode cX6_odds 78 = .ok (.aload_n 0, 1) := by decide +kernel
theorem dX6_odds_79 : decode cX6_odds 79 = .ok (.getfield 38, 3) := by decide +kernel
theorem dX6_odds_82 : decode cX6_odds 82 = .ok (.getfield 142, 3) := by decide +kernel
theorem dX6_odds_85 : decode cX6_odds 85 = .ok (.iload 7, 2) := by decide +kernel
theorem dX6_odds_87 : decode cX6_odds 87 = .ok (.iaload, 1) := by decide +kernel
theorem dX6_odds_88 : decode cX6_odds 88 = .ok (.invokestatic 127, 3) := by decide +kernel
theorem dX6_odds_91 : decode cX6_odds 91 = .ok (.iload_n 2, 1) := by decide +kernel
theorem dX6_odds_92 : decode cX6_odds 92 = .ok (.if_icmp .ne 31, 3) := by decide +kernel
theorem dX6_odds_95 : decode cX6_odds 95 = .ok (.lload 4, 2) := by decide +kernel
theorem dX6_odds_97 : decode cX6_odds 97 = .ok (.aload_n 0, 1) := by decide +kernel
theorem dX6_odds_98 : decode cX6_odds 98 = .ok (.getfield 34, 3) := by decide +kernel
theorem dX6_odds_101 : decode cX6_odds 101 = .ok (.getfield 145, 3) := by decide +kernel
theorem dX6_odds_104 : decode cX6_odds 104 = .ok (.iload 6, 2) := by decide +kernel
theorem dX6_odds_106 : decode cX6_odds 106 = .ok (.iaload, 1) := by decide +kernel
theorem dX6_odds_107 : decode cX6_odds 107 = .ok (.i2l, 1) := by decide +kernel
theorem dX6_odds_108 : decode cX6_odds 108 = .ok (.aload_n 0, 1) := by decide +kernel
theorem dX6_odds_109 : decode cX6_odds 109 = .ok (.getfield 38, 3) := by decide +kernel
theorem dX6_odds_112 : decode cX6_odds 112 = .ok (.getfield 145, 3) := by decide +kernel
theorem dX6_odds_115 : decode cX6_odds 115 = .ok (.iload 7, 2) := by decide +kernel
theorem dX6_odds_117 : decode cX6_odds 117 = .ok (.iaload, 1) := by decide +kernel
theorem dX6_odds_118 : decode cX6_odds 118 = .ok (.i2l, 1) := by decide +kernel
theorem dX6_odds_119 : decode cX6_odds 119 = .ok (.lmul, 1) := by decide +kernel
theorem dX6_odds_120 : decode cX6_odds 120 = .ok (.ladd, 1) := by decide +kernel
theorem dX6_odds_121 : decode cX6_odds 121 = .ok (.lstore 4, 2) := by decide +kernel
theorem dX6_odds_123 : decode cX6_odds 123 = .ok (.iinc 7 1, 3) := by decide +kernel
theorem dX6_odds_126 : decode cX6_odds 126 = .ok (.goto (-65), 3) := by decide +kernel
theorem dX6_odds_129 : decode cX6_odds 129 = .ok (.iinc 6 1, 3) := by decide +kernel
theorem dX6_odds_132 : decode cX6_odds 132 = .ok (.goto (-81), 3) := by decide +kernel
theorem dX6_odds_135 : decode cX6_odds 135 = .ok (.lload 4, 2) := by decide +kernel
theorem dX6_odds_137 : decode cX6_odds 137 = .ok (.aload_n 0, 1) := by decide +kernel
theorem dX6_odds_138 : decode cX6_odds 138 = .ok (.getfield 34, 3) := by decide +kernel
theorem dX6_odds_141 : decode cX6_odds 141 = .ok (.getfield 148, 3) := by decide +kernel
theorem dX6_odds_144 : decode cX6_odds 144 = .ok (.i2l, 1) := by decide +kernel
theorem dX6_odds_145 : decode cX6_odds 145 = .ok (.aload_n 0, 1) := by decide +kernel
theorem dX6_odds_146 : decode cX6_odds 146 = .ok (.getfield 38, 3) := by decide +kernel
theorem dX6_odds_149 : decode cX6_odds 149 = .ok (.getfield 148, 3) := by decide +kernel
theorem dX6_odds_152 : decode cX6_odds 152 = .ok (.i2l, 1) := by decide +kernel
theorem dX6_odds_153 : decode cX6_odds 153 = .ok (.lmul, 1) := by decide +kernel
theorem dX6_odds_154 : decode cX6_odds 154 = .ok (.iload_n 3, 1) := by decide +kernel
theorem dX6_odds_155 : decode cX6_odds 155 = .ok (.invokestatic 152, 3) := by decide +kernel
theorem dX6_odds_158 : decode cX6_odds 158 = .ok (.lreturn, 1) := by decide +kernel
set_option maxRecDepth 20000 in
theorem ggX6_gain_X6_isMeaning : GoodIn wsX6_gain wsX6_isMeaning := goodIn_r _ [5, 6, 7, 4, 8] (by decide +kernel) (by decide +kernel)
set_option maxRecDepth 20000 in
theorem gX6_gain_X6_isMeaning : GoodIn wsX6_gain (va_wsS RX6 95 yX6_isMeaning wsX6_isMeaning) := goodIn_app (goodIn_of _ (by decide +kernel)) ggX6_gain_X6_isMeaning
set_option maxRecDepth 20000 in
theorem ggX6_gain_X6_isDegree : GoodIn wsX6_gain wsX6_isDegree := goodIn_r _ [11, 6, 7, 4, 8] (by decide +kernel) (by decide +kernel)
set_option maxRecDepth 20000 in
theorem gX6_gain_X6_isDegree : GoodIn wsX6_gain (va_wsS RX6 92 yX6_isDegree wsX6_isDegree) := goodIn_app (goodIn_of _ (by decide +kernel)) ggX6_gain_X6_isDegree
set_option maxRecDepth 20000 in
theorem ggX6_gain_X6_within : GoodIn wsX6_gain wsX6_within := goodIn_r _ [8] (by decide +kernel) (by decide +kernel)
set_option maxRecDepth 20000 in
theorem gX6_gain_X6_within : GoodIn wsX6_gain (va_wsS RX6 52 yX6_within wsX6_within) := goodIn_app (goodIn_of _ (by decide +kernel)) ggX6_gain_X6_within
set_option maxRecDepth 20000 in
theorem ggX6_gain_X6_gainBy : GoodIn wsX6_gain wsX6_gainBy := goodIn_r _ [15, 16, 17, 18, 4, 19, 20, 21, 22, 23, 24, 25, 26, 27, 28, 29, 30, 31, 32, 33, 34, 35, 36, 37, 38, 39, 40, 41, 42, 43, 44, 45, 46, 47, 48, 49, 50, 51, 7, 8, 52, 53, 54, 55, 56, 57, 58, 59, 60, 61, 62, 63, 64, 65, 66, 67, 68, 69, 70, 71, 72, 73, 74, 75, 76, 77, 78, 79, 80, 81, 82, 83, 84, 85, 86, 87, 88, 89, 90, 91, 92, 93, 94, 95, 96, 97, 98, 99, 100, 101, 102, 103, 104, 105, 106, 107, 108, 109, 110, 111, 112, 113, 114, 115, 116, 117, 118, 119, 120, 121, 122, 123, 124, 125, 126, 127, 128, 129, 130, 131] (by decide +kernel) (by decide +kernel)
set_option maxRecDepth 20000 in
theorem gX6_gain_X6_gainBy : GoodIn wsX6_gain (wsV RX6 156 RX6 yX6_gainBy wsX6_gainBy) := goodIn_app (goodIn_of _ (by decide +kernel)) ggX6_gain_X6_gainBy
theorem dX6_gain_0 : decode cX6_gain 0 = .ok (.iload_n 1, 1) := by decide +kernel
theorem dX6_gain_1 : decode cX6_gain 1 = .ok (.invokestatic 95, 3) := by decide +kernel
theorem dX6_gain_4 : decode cX6_gain 4 = .ok (.ifCond .eq 20, 3) := by decide +kernel
theorem dX6_gain_7 : decode cX6_gain 7 = .ok (.iload_n 2, 1) := by decide +kernel
theorem dX6_gain_8 : decode cX6_gain 8 = .ok (.invokestatic 92, 3) := by decide +kernel
theorem dX6_gain_11 : decode cX6_gain 11 = .ok (.ifCond .eq 13, 3) := by decide +kernel
theorem dX6_gain_14 : decode cX6_gain 14 = .ok (.iload_n 3, 1) := by decide +kernel
theorem dX6_gain_15 : decode cX6_gain 15 = .ok (.iconst 0, 1) := by decide +kernel
theorem dX6_gain_16 : decode cX6_gain 16 = .ok (.bipush 7, 2) := by decide +kernel
theorem dX6_gain_18 : decode cX6_gain 18 = .ok (.invokestatic 52, 3) := by decide +kernel
theorem dX6_gain_21 : decode cX6_gain 21 = .ok (.ifCond .ne 6, 3) := by decide +kernel
theorem dX6_gain_24 : decode cX6_gain 24 = .ok (.ldc 107, 2) := by decide +kernel
theorem dX6_gain_26 : decode cX6_gain 26 = .ok (.ireturn, 1) := by decide +kernel
theorem dX6_gain_27 : decode cX6_gain 27 = .ok (.aload_n 0, 1) := by decide +kernel
theorem dX6_gain_28 : decode cX6_gain 28 = .ok (.iload_n 1, 1) := by decide +kernel
theorem dX6_gain_29 : decode cX6_gain 29 = .ok (.iload_n 2, 1) := by decide +kernel
theorem dX6_gain_30 : decode cX6_gain 30 = .ok (.iload_n 3, 1) := by decide +kernel
theorem dX6_gain_31 : decode cX6_gain 31 = .ok (.invokevirtual 156, 3) := by decide +kernel
theorem dX6_gain_34 : decode cX6_gain 34 = .ok (.ireturn, 1) := by decide +kernel
set_option maxRecDepth 20000 in
theorem ggX6_could_X6_within : GoodIn wsX6_could wsX6_within := goodIn_r _ [13] (by decide +kernel) (by decide +kernel)
set_option maxRecDepth 20000 in
theorem gX6_could_X6_within : GoodIn wsX6_could (va_wsS RX6 52 yX6_within wsX6_within) := goodIn_app (goodIn_of _ (by decide +kernel)) ggX6_could_X6_within
set_option maxRecDepth 20000 in
theorem ggX6_could_X6_isMeaning : GoodIn wsX6_could wsX6_isMeaning := goodIn_r _ [16, 10, 11, 12, 13] (by decide +kernel) (by decide +kernel)
set_option maxRecDepth 20000 in
theorem gX6_could_X6_isMeaning : GoodIn wsX6_could (va_wsS RX6 95 yX6_isMeaning wsX6_isMeaning) := goodIn_app (goodIn_of _ (by decide +kernel)) ggX6_could_X6_isMeaning
set_option maxRecDepth 20000 in
theorem ggX6_could_X6_isDegree : GoodIn wsX6_could wsX6_isDegree := goodIn_r _ [19, 10, 11, 12, 13] (by decide +kernel) (by decide +kernel)
set_option maxRecDepth 20000 in
theorem gX6_could_X6_isDegree : GoodIn wsX6_could (va_wsS RX6 92 yX6_isDegree wsX6_isDegree) := goodIn_app (goodIn_of _ (by decide +kernel)) ggX6_could_X6_isDegree
set_option maxRecDepth 20000 in
theorem ggX6_could_X6_gainBy : GoodIn wsX6_could wsX6_gainBy := goodIn_r _ [23, 24, 25, 26, 12, 27, 28, 29, 30, 31, 32, 33, 34, 35, 36, 37, 38, 39, 40, 41, 42, 43, 44, 45, 46, 47, 48, 49, 50, 51, 52, 53, 54, 55, 56, 57, 58, 59, 11, 13, 60, 61, 62, 63, 64, 65, 66, 67, 68, 69, 70, 71, 72, 8, 5, 9, 73, 74, 75, 76, 77, 78, 79, 80, 81, 82, 83, 84, 85, 86, 87, 88, 89, 90, 91, 92, 93, 94, 95, 96, 97, 98, 99, 100, 101, 102, 103, 104, 105, 106, 107, 108, 109, 110, 111, 112, 113, 114, 115, 116, 117, 118, 119, 120, 121, 122, 123, 124, 125, 126, 127, 128, 129, 130, 131, 132, 133, 134, 135, 136] (by decide +kernel) (by decide +kernel)
set_option maxRecDepth 20000 in
theorem gX6_could_X6_gainBy : GoodIn wsX6_could (wsV RX6 156 RX6 yX6_gainBy wsX6_gainBy) := goodIn_app (goodIn_of _ (by decide +kernel)) ggX6_could_X6_gainBy
theorem dX6_could_0 : decode cX6_could 0 = .ok (.iload_n 3, 1) := by decide +kernel
theorem dX6_could_1 : decode cX6_could 1 = .ok (.iconst 0, 1) := by decide +kernel
theorem dX6_could_2 : decode cX6_could 2 = .ok (.iconst 2, 1) := by decide +kernel
theorem dX6_could_3 : decode cX6_could 3 = .ok (.invokestatic 52, 3) := by decide +kernel
theorem dX6_could_6 : decode cX6_could 6 = .ok (.ifCond .ne 6, 3) := by decide +kernel
theorem dX6_could_9 : decode cX6_could 9 = .ok (.ldc 106, 2) := by decide +kernel
theorem dX6_could_11 : decode cX6_could 11 = .ok (.ireturn, 1) := by decide +kernel
theorem dX6_could_12 : decode cX6_could 12 = .ok (.iload_n 1, 1) := by decide +kernel
theorem dX6_could_13 : decode cX6_could 13 = .ok (.invokestatic 95, 3) := by decide +kernel
theorem dX6_could_16 : decode cX6_could 16 = .ok (.ifCond .eq 20, 3) := by decide +kernel
theorem dX6_could_19 : decode cX6_could 19 = .ok (.iload_n 2, 1) := by decide +kernel
theorem dX6_could_20 : decode cX6_could 20 = .ok (.invokestatic 92, 3) := by decide +kernel
theorem dX6_could_23 : decode cX6_could 23 = .ok (.ifCond .eq 13, 3) := by decide +kernel
theorem dX6_could_26 : decode cX6_could 26 = .ok (.iload 4, 2) := by decide +kernel
theorem dX6_could_28 : decode cX6_could 28 = .ok (.iconst 0, 1) := by decide +kernel
theorem dX6_could_29 : decode cX6_could 29 = .ok (.iconst 2, 1) := by decide +kernel
theorem dX6_could_30 : decode cX6_could 30 = .ok (.invokestatic 52, 3) := by decide +kernel
theorem dX6_could_33 : decode cX6_could 33 = .ok (.ifCond .ne 6, 3) := by decide +kernel
theorem dX6_could_36 : decode cX6_could 36 = .ok (.ldc 107, 2) := by decide +kernel
theorem dX6_could_38 : decode cX6_could 38 = .ok (.ireturn, 1) := by decide +kernel
theorem dX6_could_39 : decode cX6_could 39 = .ok (.iconst 1, 1) := by decide +kernel
theorem dX6_could_40 : decode cX6_could 40 = .ok (.iload_n 3, 1) := by decide +kernel
theorem dX6_could_41 : decode cX6_could 41 = .ok (.ishl, 1) := by decide +kernel
theorem dX6_could_42 : decode cX6_could 42 = .ok (.istore 5, 2) := by decide +kernel
theorem dX6_could_44 : decode cX6_could 44 = .ok (.aload_n 0, 1) := by decide +kernel
theorem dX6_could_45 : decode cX6_could 45 = .ok (.iload_n 1, 1) := by decide +kernel
theorem dX6_could_46 : decode cX6_could 46 = .ok (.iload_n 2, 1) := by decide +kernel
theorem dX6_could_47 : decode cX6_could 47 = .ok (.iload 5, 2) := by decide +kernel
theorem dX6_could_49 : decode cX6_could 49 = .ok (.invokevirtual 156, 3) := by decide +kernel
theorem dX6_could_52 : decode cX6_could 52 = .ok (.aload_n 0, 1) := by decide +kernel
theorem dX6_could_53 : decode cX6_could 53 = .ok (.iload_n 1, 1) := by decide +kernel
theorem dX6_could_54 : decode cX6_could 54 = .ok (.iload_n 2, 1) := by decide +kernel
theorem dX6_could_55 : decode cX6_could 55 = .ok (.iconst 0, 1) := by decide +kernel
theorem dX6_could_56 : decode cX6_could 56 = .ok (.invokevirtual 156, 3) := by decide +kernel
theorem dX6_could_59 : decode cX6_could 59 = .ok (.isub, 1) := by decide +kernel
theorem dX6_could_60 : decode cX6_could 60 = .ok (.istore 6, 2) := by decide +kernel
theorem dX6_could_62 : decode cX6_could 62 = .ok (.iload 4, 2) := by decide +kernel
theorem dX6_could_64 : decode cX6_could 64 = .ok (.ifCond .ne 6, 3) := by decide +kernel
theorem dX6_could_67 : decode cX6_could 67 = .ok (.iload 6, 2) := by decide +kernel
theorem dX6_could_69 : decode cX6_could 69 = .ok (.ireturn, 1) := by decide +kernel
theorem dX6_could_70 : decode cX6_could 70 = .ok (.iload 6, 2) := by decide +kernel
theorem dX6_could_72 : decode cX6_could 72 = .ok (.istore 7, 2) := by decide +kernel
theorem dX6_could_74 : decode cX6_could 74 = .ok (.iconst 1, 1) := by decide +kernel
theorem dX6_could_75 : decode cX6_could 75 = .ok (.istore 8, 2) := by decide +kernel
theorem dX6_could_77 : decode cX6_could 77 = .ok (.iload 8, 2) := by decide +kernel
theorem dX6_could_79 : decode cX6_could 79 = .ok (.bipush 8, 2) := by decide +kernel
theorem dX6_could_81 : decode cX6_could 81 = .ok (.if_icmp .ge 57, 3) := by decide +kernel
theorem dX6_could_84 : decode cX6_could 84 = .ok (.iload 8, 2) := by decide +kernel
theorem dX6_could_86 : decode cX6_could 86 = .ok (.iload 5, 2) := by decide +kernel
theorem dX6_could_88 : decode cX6_could 88 = .ok (.iand, 1) := by decide +kernel
theorem dX6_could_89 : decode cX6_could 89 = .ok (.ifCond .ne 43, 3) := by decide +kernel
theorem dX6_could_92 : decode cX6_could 92 = .ok (.aload_n 0, 1) := by decide +kernel
theorem dX6_could_93 : decode cX6_could 93 = .ok (.iload_n 1, 1) := by decide +kernel
theorem dX6_could_94 : decode cX6_could 94 = .ok (.iload_n 2, 1) := by decide +kernel
theorem dX6_could_95 : decode cX6_could 95 = .ok (.iload 8, 2) := by decide +kernel
theorem dX6_could_97 : decode cX6_could 97 = .ok (.iload 5, 2) := by decide +kernel
theorem dX6_could_99 : decode cX6_could 99 = .ok (.ior, 1) := by decide +kernel
theorem dX6_could_100 : decode cX6_could 100 = .ok (.invokevirtual 156, 3) := by decide +kernel
theorem dX6_could_103 : decode cX6_could 103 = .ok (.aload_n 0, 1) := by decide +kernel
theorem dX6_could_104 : decode cX6_could 104 = .ok (.iload_n 1, 1) := by decide +kernel
theorem dX6_could_105 : decode cX6_could 105 = .ok (.iload_n 2, 1) := by decide +kernel
theorem dX6_could_106 : decode cX6_could 106 = .ok (.iload 8, 2) := by decide +kernel
theorem dX6_could_108 : decode cX6_could 108 = .ok (.invokevirtual 156, 3) := by decide +kernel
theorem dX6_could_111 : decode cX6_could 111 = .ok (.isub, 1) := by decide +kernel
theorem dX6_could_112 : decode cX6_could 112 = .ok (.istore 9, 2) := by decide +kernel
theorem dX6_could_114 : decode cX6_could 114 = .ok (.iload 6, 2) := by decide +kernel
theorem dX6_could_116 : decode cX6_could 116 = .ok (.iload 9, 2) := by decide +kernel
theorem dX6_could_118 : decode cX6_could 118 = .ok (.invokestatic 160, 3) := by decide +kernel
theorem dX6_could_121 : decode cX6_could 121 = .ok (.istore 6, 2) := by decide +kernel
theorem dX6_could_123 : decode cX6_could 123 = .ok (.iload 7, 2) := by decide +kernel
theorem dX6_could_125 : decode cX6_could 125 = .ok (.iload 9, 2) := by decide +kernel
theorem dX6_could_127 : decode cX6_could 127 = .ok (.invokestatic 165, 3) := by decide +kernel
theorem dX6_could_130 : decode cX6_could 130 = .ok (.istore 7, 2) := by decide +kernel
theorem dX6_could_132 : decode cX6_could 132 = .ok (.iinc 8 1, 3) := by decide +kernel
theorem dX6_could_135 : decode cX6_could 135 = .ok (.goto (-58), 3) := by decide +kernel
theorem dX6_could_138 : decode cX6_could 138 = .ok (.iload 4, 2) := by decide +kernel
theorem dX6_could_140 : decode cX6_could 140 = .ok (.iconst 1, 1) := by decide +kernel
theorem dX6_could_141 : decode cX6_could 141 = .ok (.if_icmp .ne 8, 3) := by decide +kernel
theorem dX6_could_144 : decode cX6_could 144 = .ok (.iload 6, 2) := by decide +kernel
theorem dX6_could_146 : decode cX6_could 146 = .ok (.goto 5, 3) := by decide +kernel
theorem dX6_could_149 : decode cX6_could 149 = .ok (.iload 7, 2) := by decide +kernel
theorem dX6_could_151 : decode cX6_could 151 = .ok (.ireturn, 1) := by decide +kernel
set_option maxRecDepth 20000 in
theorem ggX6_any_X6_isMeaning : GoodIn wsX6_any wsX6_isMeaning := goodIn_r _ [8, 9, 10, 7, 11] (by decide +kernel) (by decide +kernel)
set_option maxRecDepth 20000 in
theorem gX6_any_X6_isMeaning : GoodIn wsX6_any (va_wsS RX6 95 yX6_isMeaning wsX6_isMeaning) := goodIn_app (goodIn_of _ (by decide +kernel)) ggX6_any_X6_isMeaning
set_option maxRecDepth 20000 in
theorem ggX6_any_X6_isDegree : GoodIn wsX6_any wsX6_isDegree := goodIn_r _ [14, 9, 10, 7, 11] (by decide +kernel) (by decide +kernel)
set_option maxRecDepth 20000 in
theorem gX6_any_X6_isDegree : GoodIn wsX6_any (va_wsS RX6 92 yX6_isDegree wsX6_isDegree) := goodIn_app (goodIn_of _ (by decide +kernel)) ggX6_any_X6_isDegree
set_option maxRecDepth 20000 in
theorem ggX6_any_X6_causesAtWork : GoodIn wsX6_any wsX6_causesAtWork := goodIn_r _ [18, 1, 2, 19, 101, 102, 103, 104, 105, 106, 107, 108, 109, 110, 111, 112, 113] (by decide +kernel) (by decide +kernel)
set_option maxRecDepth 20000 in
theorem gX6_any_X6_causesAtWork : GoodIn wsX6_any (wsV RX6 98 RX6 yX6_causesAtWork wsX6_causesAtWork) := goodIn_app (goodIn_of _ (by decide +kernel)) ggX6_any_X6_causesAtWork
set_option maxRecDepth 20000 in
theorem ggX6_any_X6_timeOf : GoodIn wsX6_any wsX6_timeOf := goodIn_r _ [23, 4, 1, 2, 3, 24, 25, 26, 27, 28, 29, 30, 31, 32, 33, 34, 35, 36, 37, 38, 39, 40, 41, 42, 43, 44, 45, 46, 47, 48, 49, 50, 51, 10, 7, 11, 52, 53, 54, 55, 56, 57, 58, 59, 60, 61, 62, 63, 64, 65, 66, 67, 68, 69, 70, 71, 72, 73, 74, 75, 76, 77, 78, 79, 80, 81, 82, 83, 84, 85, 86, 87, 88, 89, 90, 91, 92, 93, 94, 95, 96, 97, 98, 99, 100, 101, 102, 103, 104, 105, 106, 107, 108, 109, 110, 111, 112, 113, 114, 115, 116, 117, 118, 119, 120, 121, 122, 123, 124, 125, 126, 127, 128, 129, 130, 131] (by decide +kernel) (by decide +kernel)
set_option maxRecDepth 20000 in
theorem gX6_any_X6_timeOf : GoodIn wsX6_any (wsV RX6 102 RX6 yX6_timeOf wsX6_timeOf) := goodIn_app (goodIn_of _ (by decide +kernel)) ggX6_any_X6_timeOf
set_option maxRecDepth 20000 in
theorem ggX6_any_X3_fill : GoodIn wsX6_any wsX3_fill := goodIn_r _ [28, 29, 30, 31, 32, 33, 34, 35, 36, 37, 38, 39, 40, 41, 42, 43, 44, 45, 46, 47, 48, 49, 27, 50, 51, 10, 7, 11, 110, 111, 112, 113, 114, 115, 116, 117, 118, 119, 120, 121, 122, 123, 124, 125, 126, 127, 128, 129, 130, 131] (by decide +kernel) (by decide +kernel)
set_option maxRecDepth 20000 in
theorem gX6_any_X3_fill : GoodIn wsX6_any (wsV RX6 108 RX3 yX3_fill wsX3_fill) := goodIn_app (goodIn_of _ (by decide +kernel)) ggX6_any_X3_fill
set_option maxRecDepth 20000 in
theorem ggX6_any_X3_timeBy : GoodIn wsX6_any wsX3_timeBy := goodIn_r _ [55, 46, 56, 57, 58, 27, 59, 44, 45, 60, 61, 62, 63, 43, 30, 40, 34, 64, 65, 66, 67, 41, 35, 68, 51, 69, 70, 71, 72, 32, 31, 33, 73, 74, 75, 76, 77, 38, 78, 79, 80, 81, 82, 83, 84, 85, 86, 87, 88, 89, 90, 91, 92, 42, 37, 93, 94, 95, 96, 97, 98, 99, 100, 36, 114, 115, 116, 117, 118, 119, 120, 121, 122, 123, 124, 125, 126, 127, 128, 129, 130, 131] (by decide +kernel) (by decide +kernel)
set_option maxRecDepth 20000 in
theorem gX6_any_X3_timeBy : GoodIn wsX6_any (wsV RX6 123 RX3 yX3_timeBy wsX3_timeBy) := goodIn_app (goodIn_of _ (by decide +kernel)) ggX6_any_X3_timeBy
theorem dX6_any_0 : decode cX6_any 0 = .ok (.iload_n 1, 1) := by decide +kernel
theorem dX6_any_1 : decode cX6_any 1 = .ok (.invokestatic 95, 3) := by decide +kernel
theorem dX6_any_4 : decode cX6_any 4 = .ok (.ifCond .eq 10, 3) := by decide +kernel
theorem dX6_any_7 : decode cX6_any 7 = .ok (.iload_n 2, 1) := by decide +kernel
theorem dX6_any_8 : decode cX6_any 8 = .ok (.invokestatic 92, 3) := by decide +kernel
theorem dX6_any_11 : decode cX6_any 11 = .ok (.ifCond .ne 6, 3) := by decide +kernel
theorem dX6_any_14 : decode cX6_any 14 = .ok (.bipush (-2), 2) := by decide +kernel
theorem dX6_any_16 : decode cX6_any 16 = .ok (.ireturn, 1) := by decide +kernel
theorem dX6_any_17 : decode cX6_any 17 = .ok (.aload_n 0, 1) := by decide +kernel
theorem dX6_any_18 : decode cX6_any 18 = .ok (.iconst 1, 1) := by decide +kernel
theorem dX6_any_19 : decode cX6_any 19 = .ok (.iload_n 2, 1) := by decide +kernel
theorem dX6_any_20 : decode cX6_any 20 = .ok (.iload_n 1, 1) := by decide +kernel
theorem dX6_any_21 : decode cX6_any 21 = .ok (.aload_n 0, 1) := by decide +kernel
theorem dX6_any_22 : decode cX6_any 22 = .ok (.invokevirtual 98, 3) := by decide +kernel
theorem dX6_any_25 : decode cX6_any 25 = .ok (.invokevirtual 102, 3) := by decide +kernel
theorem dX6_any_28 : decode cX6_any 28 = .ok (.istore_n 3, 1) := by decide +kernel
theorem dX6_any_29 : decode cX6_any 29 = .ok (.aload_n 0, 1) := by decide +kernel
theorem dX6_any_30 : decode cX6_any 30 = .ok (.getfield 10, 3) := by decide +kernel
theorem dX6_any_33 : decode cX6_any 33 = .ok (.getfield 56, 3) := by decide +kernel
theorem dX6_any_36 : decode cX6_any 36 = .ok (.getfield 60, 3) := by decide +kernel
theorem dX6_any_39 : decode cX6_any 39 = .ok (.iconst 1, 1) := by decide +kernel
theorem dX6_any_40 : decode cX6_any 40 = .ok (.iaload, 1) := by decide +kernel
theorem dX6_any_41 : decode cX6_any 41 = .ok (.iconst 1, 1) := by decide +kernel
theorem dX6_any_42 : decode cX6_any 42 = .ok (.iadd, 1) := by decide +kernel
theorem dX6_any_43 : decode cX6_any 43 = .ok (.istore 4, 2) := by decide +kernel
theorem dX6_any_45 : decode cX6_any 45 = .ok (.iload 4, 2) := by decide +kernel
theorem dX6_any_47 : decode cX6_any 47 = .ok (.bipush 100, 2) := by decide +kernel
theorem dX6_any_49 : decode cX6_any 49 = .ok (.if_icmp .gt 49, 3) := by decide +kernel
theorem dX6_any_52 : decode cX6_any 52 = .ok (.aload_n 0, 1) := by decide +kernel
theorem dX6_any_53 : decode cX6_any 53 = .ok (.getfield 27, 3) := by decide +kernel
theorem dX6_any_56 : decode cX6_any 56 = .ok (.aload_n 0, 1) := by decide +kernel
theorem dX6_any_57 : decode cX6_any 57 = .ok (.getfield 10, 3) := by decide +kernel
theorem dX6_any_60 : decode cX6_any 60 = .ok (.getfield 56, 3) := by decide +kernel
theorem dX6_any_63 : decode cX6_any 63 = .ok (.iconst 0, 1) := by decide +kernel
theorem dX6_any_64 : decode cX6_any 64 = .ok (.iload 4, 2) := by decide +kernel
theorem dX6_any_66 : decode cX6_any 66 = .ok (.iload_n 2, 1) := by decide +kernel
theorem dX6_any_67 : decode cX6_any 67 = .ok (.aload_n 0, 1) := by decide +kernel
theorem dX6_any_68 : decode cX6_any 68 = .ok (.invokevirtual 98, 3) := by decide +kernel
theorem dX6_any_71 : decode cX6_any 71 = .ok (.invokevirtual 108, 3) := by decide +kernel
theorem dX6_any_74 : decode cX6_any 74 = .ok (.aload_n 0, 1) := by decide +kernel
theorem dX6_any_75 : decode cX6_any 75 = .ok (.getfield 27, 3) := by decide +kernel
theorem dX6_any_78 : decode cX6_any 78 = .ok (.iload_n 1, 1) := by decide +kernel
theorem dX6_any_79 : decode cX6_any 79 = .ok (.iload_n 3, 1) := by decide +kernel
theorem dX6_any_80 : decode cX6_any 80 = .ok (.iconst 1, 1) := by decide +kernel
theorem dX6_any_81 : decode cX6_any 81 = .ok (.isub, 1) := by decide +kernel
theorem dX6_any_82 : decode cX6_any 82 = .ok (.invokevirtual 123, 3) := by decide +kernel
theorem dX6_any_85 : decode cX6_any 85 = .ok (.iload_n 3, 1) := by decide +kernel
theorem dX6_any_86 : decode cX6_any 86 = .ok (.if_icmp .ge 6, 3) := by decide +kernel
theorem dX6_any_89 : decode cX6_any 89 = .ok (.iload 4, 2) := by decide +kernel
theorem dX6_any_91 : decode cX6_any 91 = .ok (.ireturn, 1) := by decide +kernel
theorem dX6_any_92 : decode cX6_any 92 = .ok (.iinc 4 1, 3) := by decide +kernel
theorem dX6_any_95 : decode cX6_any 95 = .ok (.goto (-50), 3) := by decide +kernel
theorem dX6_any_98 : decode cX6_any 98 = .ok (.bipush (-6), 2) := by decide +kernel
theorem dX6_any_100 : decode cX6_any 100 = .ok (.ireturn, 1) := by decide +kernel
set_option maxRecDepth 20000 in
theorem ggX6_chance_X6_within : GoodIn wsX6_chance wsX6_within := goodIn_r _ [5] (by decide +kernel) (by decide +kernel)
set_option maxRecDepth 20000 in
theorem gX6_chance_X6_within : GoodIn wsX6_chance (va_wsS RX6 52 yX6_within wsX6_within) := goodIn_app (goodIn_of _ (by decide +kernel)) ggX6_chance_X6_within
set_option maxRecDepth 20000 in
theorem ggX6_chance_X6_isPart : GoodIn wsX6_chance wsX6_isPart := goodIn_r _ [8, 2, 3, 4, 5] (by decide +kernel) (by decide +kernel)
set_option maxRecDepth 20000 in
theorem gX6_chance_X6_isPart : GoodIn wsX6_chance (va_wsS RX6 133 yX6_isPart wsX6_isPart) := goodIn_app (goodIn_of _ (by decide +kernel)) ggX6_chance_X6_isPart
set_option maxRecDepth 20000 in
theorem ggX6_chance_X6_waysOfAtLeast : GoodIn wsX6_chance wsX6_waysOfAtLeast := goodIn_r _ [11] (by decide +kernel) (by decide +kernel)
set_option maxRecDepth 20000 in
theorem gX6_chance_X6_waysOfAtLeast : GoodIn wsX6_chance (va_wsS RX6 168 yX6_waysOfAtLeast wsX6_waysOfAtLeast) := goodIn_app (goodIn_of _ (by decide +kernel)) ggX6_chance_X6_waysOfAtLeast
set_option maxRecDepth 20000 in
theorem ggX6_chance_X6_partOf : GoodIn wsX6_chance wsX6_partOf := goodIn_r _ [14, 15, 16, 4, 17] (by decide +kernel) (by decide +kernel)
set_option maxRecDepth 20000 in
theorem gX6_chance_X6_partOf : GoodIn wsX6_chance (va_wsS RX6 152 yX6_partOf wsX6_partOf) := goodIn_app (goodIn_of _ (by decide +kernel)) ggX6_chance_X6_partOf
theorem dX6_chance_0 : decode cX6_chance 0 = .ok (.iload_n 2, 1) := by decide +kernel
theorem dX6_chance_1 : decode cX6_chance 1 = .ok (.iconst 1, 1) := by decide +kernel
theorem dX6_chance_2 : decode cX6_chance 2 = .ok (.bipush 40, 2) := by decide +kernel
theorem dX6_chance_4 : decode cX6_chance 4 = .ok (.invokestatic 52, 3) := by decide +kernel
theorem dX6_chance_7 : decode cX6_chance 7 = .ok (.ifCond .eq 19, 3) := by decide +kernel
theorem dX6_chance_10 : decode cX6_chance 10 = .ok (.iload_n 1, 1) := by decide +kernel
theorem dX6_chance_11 : decode cX6_chance 11 = .ok (.iconst 0, 1) := by decide +kernel
theorem dX6_chance_12 : decode cX6_chance 12 = .ok (.iload_n 2, 1) := by decide +kernel
theorem dX6_chance_13 : decode cX6_chance 13 = .ok (.invokestatic 52, 3) := by decide +kernel
theorem dX6_chance_16 : decode cX6_chance 16 = .ok (.ifCond .eq 10, 3) := by decide +kernel
theorem dX6_chance_19 : decode cX6_chance 19 = .ok (.iload_n 3, 1) := by decide +kernel
theorem dX6_chance_20 : decode cX6_chance 20 = .ok (.invokestatic 133, 3) := by decide +kernel
theorem dX6_chance_23 : decode cX6_chance 23 = .ok (.ifCond .ne 7, 3) := by decide +kernel
theorem dX6_chance_26 : decode cX6_chance 26 = .ok (.ldc2_w 136, 3) := by decide +kernel
theorem dX6_chance_29 : decode cX6_chance 29 = .ok (.lreturn, 1) := by decide +kernel
theorem dX6_chance_30 : decode cX6_chance 30 = .ok (.iload_n 1, 1) := by decide +kernel
theorem dX6_chance_31 : decode cX6_chance 31 = .ok (.iload_n 2, 1) := by decide +kernel
theorem dX6_chance_32 : decode cX6_chance 32 = .ok (.invokestatic 168, 3) := by decide +kernel
theorem dX6_chance_35 : decode cX6_chance 35 = .ok (.lconst 1, 1) := by decide +kernel
theorem dX6_chance_36 : decode cX6_chance 36 = .ok (.iload_n 2, 1) := by decide +kernel
theorem dX6_chance_37 : decode cX6_chance 37 = .ok (.lshl, 1) := by decide +kernel
theorem dX6_chance_38 : decode cX6_chance 38 = .ok (.iload_n 3, 1) := by decide +kernel
theorem dX6_chance_39 : decode cX6_chance 39 = .ok (.invokestatic 152, 3) := by decide +kernel
theorem dX6_chance_42 : decode cX6_chance 42 = .ok (.lreturn, 1) := by decide +kernel
set_option maxRecDepth 20000 in
theorem ggX6_pairs_X6_within : GoodIn wsX6_pairs wsX6_within := goodIn_r _ [5] (by decide +kernel) (by decide +kernel)
set_option maxRecDepth 20000 in
theorem gX6_pairs_X6_within : GoodIn wsX6_pairs (va_wsS RX6 52 yX6_within wsX6_within) := goodIn_app (goodIn_of _ (by decide +kernel)) ggX6_pairs_X6_within
set_option maxRecDepth 20000 in
theorem ggX6_pairs_X6_waysOfAtLeast : GoodIn wsX6_pairs wsX6_waysOfAtLeast := goodIn_r _ [8] (by decide +kernel) (by decide +kernel)
set_option maxRecDepth 20000 in
theorem gX6_pairs_X6_waysOfAtLeast : GoodIn wsX6_pairs (va_wsS RX6 168 yX6_waysOfAtLeast wsX6_waysOfAtLeast) := goodIn_app (goodIn_of _ (by decide +kernel)) ggX6_pairs_X6_waysOfAtLeast
theorem dX6_pairs_0 : decode cX6_pairs 0 = .ok (.iload_n 1, 1) := by decide +kernel
theorem dX6_pairs_1 : decode cX6_pairs 1 = .ok (.bipush 6, 2) := by decide +kernel
theorem dX6_pairs_3 : decode cX6_pairs 3 = .ok (.bipush 10, 2) := by decide +kernel
theorem dX6_pairs_5 : decode cX6_pairs 5 = .ok (.invokestatic 52, 3) := by decide +kernel
theorem dX6_pairs_8 : decode cX6_pairs 8 = .ok (.ifCond .eq 14, 3) := by decide +kernel
theorem dX6_pairs_11 : decode cX6_pairs 11 = .ok (.iload_n 2, 1) := by decide +kernel
theorem dX6_pairs_12 : decode cX6_pairs 12 = .ok (.iconst 1, 1) := by decide +kernel
theorem dX6_pairs_13 : decode cX6_pairs 13 = .ok (.sipush 200, 3) := by decide +kernel
theorem dX6_pairs_16 : decode cX6_pairs 16 = .ok (.invokestatic 52, 3) := by decide +kernel
theorem dX6_pairs_19 : decode cX6_pairs 19 = .ok (.ifCond .ne 6, 3) := by decide +kernel
theorem dX6_pairs_22 : decode cX6_pairs 22 = .ok (.bipush (-2), 2) := by decide +kernel
theorem dX6_pairs_24 : decode cX6_pairs 24 = .ok (.ireturn, 1) := by decide +kernel
theorem dX6_pairs_25 : decode cX6_pairs 25 = .ok (.iconst 1, 1) := by decide +kernel
theorem dX6_pairs_26 : decode cX6_pairs 26 = .ok (.istore_n 3, 1) := by decide +kernel
theorem dX6_pairs_27 : decode cX6_pairs 27 = .ok (.iload_n 3, 1) := by decide +kernel
theorem dX6_pairs_28 : decode cX6_pairs 28 = .ok (.bipush 40, 2) := by decide +kernel
theorem dX6_pairs_30 : decode cX6_pairs 30 = .ok (.if_icmp .gt 42, 3) := by decide +kernel
theorem dX6_pairs_33 : decode cX6_pairs 33 = .ok (.iload_n 3, 1) := by decide +kernel
theorem dX6_pairs_34 : decode cX6_pairs 34 = .ok (.iload_n 1, 1) := by decide +kernel
theorem dX6_pairs_35 : decode cX6_pairs 35 = .ok (.imul, 1) := by decide +kernel
theorem dX6_pairs_36 : decode cX6_pairs 36 = .ok (.bipush 9, 2) := by decide +kernel
theorem dX6_pairs_38 : decode cX6_pairs 38 = .ok (.iadd, 1) := by decide +kernel
theorem dX6_pairs_39 : decode cX6_pairs 39 = .ok (.bipush 10, 2) := by decide +kernel
theorem dX6_pairs_41 : decode cX6_pairs 41 = .ok (.idiv, 1) := by decide +kernel
theorem dX6_pairs_42 : decode cX6_pairs 42 = .ok (.istore 4, 2) := by decide +kernel
theorem dX6_pairs_44 : decode cX6_pairs 44 = .ok (.iload 4, 2) := by decide +kernel
theorem dX6_pairs_46 : decode cX6_pairs 46 = .ok (.iload_n 3, 1) := by decide +kernel
theorem dX6_pairs_47 : decode cX6_pairs 47 = .ok (.invokestatic 168, 3) := by decide +kernel
theorem dX6_pairs_50 : decode cX6_pairs 50 = .ok (.ldc2_w 172, 3) := by decide +kernel
theorem dX6_pairs_53 : decode cX6_pairs 53 = .ok (.lmul, 1) := by decide +kernel
theorem dX6_pairs_54 : decode cX6_pairs 54 = .ok (.iload_n 2, 1) := by decide +kernel
theorem dX6_pairs_55 : decode cX6_pairs 55 = .ok (.i2l, 1) := by decide +kernel
theorem dX6_pairs_56 : decode cX6_pairs 56 = .ok (.lconst 1, 1) := by decide +kernel
theorem dX6_pairs_57 : decode cX6_pairs 57 = .ok (.iload_n 3, 1) := by decide +kernel
theorem dX6_pairs_58 : decode cX6_pairs 58 = .ok (.lshl, 1) := by decide +kernel
theorem dX6_pairs_59 : decode cX6_pairs 59 = .ok (.lmul, 1) := by decide +kernel
theorem dX6_pairs_60 : decode cX6_pairs 60 = .ok (.lcmp, 1) := by decide +kernel
theorem dX6_pairs_61 : decode cX6_pairs 61 = .ok (.ifCond .gt 5, 3) := by decide +kernel
theorem dX6_pairs_64 : decode cX6_pairs 64 = .ok (.iload_n 3, 1) := by decide +kernel
theorem dX6_pairs_65 : decode cX6_pairs 65 = .ok (.ireturn, 1) := by decide +kernel
theorem dX6_pairs_66 : decode cX6_pairs 66 = .ok (.iinc 3 1, 3) := by decide +kernel
theorem dX6_pairs_69 : decode cX6_pairs 69 = .ok (.goto (-42), 3) := by decide +kernel
theorem dX6_pairs_72 : decode cX6_pairs 72 = .ok (.bipush (-6), 2) := by decide +kernel
theorem dX6_pairs_74 : decode cX6_pairs 74 = .ok (.ireturn, 1) := by decide +kernel
set_option maxRecDepth 20000 in
theorem ggX6_say_X6_within : GoodIn wsX6_say wsX6_within := goodIn_r _ [6] (by decide +kernel) (by decide +kernel)
set_option maxRecDepth 20000 in
theorem gX6_say_X6_within : GoodIn wsX6_say (va_wsS RX6 52 yX6_within wsX6_within) := goodIn_app (goodIn_of _ (by decide +kernel)) ggX6_say_X6_within
set_option maxRecDepth 20000 in
theorem ggX6_say_X4_add : GoodIn wsX6_say wsX4_add := goodIn_r _ [11, 12, 13, 21, 22, 23, 24, 25] (by decide +kernel) (by decide +kernel)
set_option maxRecDepth 20000 in
theorem gX6_say_X4_add : GoodIn wsX6_say (wsV RX6 177 RX4 yX4_add wsX4_add) := goodIn_app (goodIn_of _ (by decide +kernel)) ggX6_say_X4_add
theorem dX6_say_0 : decode cX6_say 0 = .ok (.iload_n 1, 1) := by decide +kernel
theorem dX6_say_1 : decode cX6_say 1 = .ok (.bipush 33, 2) := by decide +kernel
theorem dX6_say_3 : decode cX6_say 3 = .ok (.bipush 126, 2) := by decide +kernel
theorem dX6_say_5 : decode cX6_say 5 = .ok (.invokestatic 52, 3) := by decide +kernel
theorem dX6_say_8 : decode cX6_say 8 = .ok (.ifCond .ne 6, 3) := by decide +kernel
theorem dX6_say_11 : decode cX6_say 11 = .ok (.bipush (-2), 2) := by decide +kernel
theorem dX6_say_13 : decode cX6_say 13 = .ok (.ireturn, 1) := by decide +kernel
theorem dX6_say_14 : decode cX6_say 14 = .ok (.aload_n 0, 1) := by decide +kernel
theorem dX6_say_15 : decode cX6_say 15 = .ok (.getfield 44, 3) := by decide +kernel
theorem dX6_say_18 : decode cX6_say 18 = .ok (.getfield 174, 3) := by decide +kernel
theorem dX6_say_21 : decode cX6_say 21 = .ok (.bipush 60, 2) := by decide +kernel
theorem dX6_say_23 : decode cX6_say 23 = .ok (.if_icmp .lt 6, 3) := by decide +kernel
theorem dX6_say_26 : decode cX6_say 26 = .ok (.bipush (-4), 2) := by decide +kernel
theorem dX6_say_28 : decode cX6_say 28 = .ok (.ireturn, 1) := by decide +kernel
theorem dX6_say_29 : decode cX6_say 29 = .ok (.aload_n 0, 1) := by decide +kernel
theorem dX6_say_30 : decode cX6_say 30 = .ok (.getfield 44, 3) := by decide +kernel
theorem dX6_say_33 : decode cX6_say 33 = .ok (.iload_n 1, 1) := by decide +kernel
theorem dX6_say_34 : decode cX6_say 34 = .ok (.invokevirtual 177, 3) := by decide +kernel
theorem dX6_say_37 : decode cX6_say 37 = .ok (.aload_n 0, 1) := by decide +kernel
theorem dX6_say_38 : decode cX6_say 38 = .ok (.getfield 44, 3) := by decide +kernel
theorem dX6_say_41 : decode cX6_say 41 = .ok (.getfield 174, 3) := by decide +kernel
theorem dX6_say_44 : decode cX6_say 44 = .ok (.ireturn, 1) := by decide +kernel
theorem dX6_wipe_0 : decode cX6_wipe 0 = .ok (.aload_n 0, 1) := by decide +kernel
theorem dX6_wipe_1 : decode cX6_wipe 1 = .ok (.getfield 44, 3) := by decide +kernel
theorem dX6_wipe_4 : decode cX6_wipe 4 = .ok (.getfield 174, 3) := by decide +kernel
theorem dX6_wipe_7 : decode cX6_wipe 7 = .ok (.istore_n 1, 1) := by decide +kernel
theorem dX6_wipe_8 : decode cX6_wipe 8 = .ok (.aload_n 0, 1) := by decide +kernel
theorem dX6_wipe_9 : decode cX6_wipe 9 = .ok (.getfield 44, 3) := by decide +kernel
theorem dX6_wipe_12 : decode cX6_wipe 12 = .ok (.iconst 0, 1) := by decide +kernel
theorem dX6_wipe_13 : decode cX6_wipe 13 = .ok (.putfield 174, 3) := by decide +kernel
theorem dX6_wipe_16 : decode cX6_wipe 16 = .ok (.iload_n 1, 1) := by decide +kernel
theorem dX6_wipe_17 : decode cX6_wipe 17 = .ok (.ireturn, 1) := by decide +kernel
set_option maxRecDepth 20000 in
theorem ggX6_fault_X4_read : GoodIn wsX6_fault wsX4_read := goodIn_r _ [6, 7, 8, 9, 10, 11, 12, 13, 14, 15, 5, 16, 17, 18, 19, 20, 21, 22, 23, 24, 25, 26, 27, 28, 29, 30, 31, 32, 33, 34, 35, 36, 37, 38, 39, 40, 41, 42, 43, 44, 45, 46, 47, 48, 49, 50, 51, 52, 53, 54, 55, 56, 57, 58, 59, 60, 61, 62, 63, 64, 65, 66, 67, 68, 69, 70, 71, 72, 73, 74, 75, 76, 77, 78, 79, 80, 81, 82, 83, 84, 85, 86, 87, 88, 89, 90, 91, 92, 93, 94, 95, 96, 97, 98, 99, 100, 101, 102, 103, 104, 105, 106, 107, 108, 109, 110, 111, 112, 113, 114, 115, 116, 117, 118, 119, 120, 121, 129, 130, 131, 132, 133, 134, 135, 136] (by decide +kernel) (by decide +kernel)
set_option maxRecDepth 20000 in
theorem gX6_fault_X4_read : GoodIn wsX6_fault (wsV RX6 180 RX4 yX4_read wsX4_read) := goodIn_app (goodIn_of _ (by decide +kernel)) ggX6_fault_X4_read
theorem dX6_fault_0 : decode cX6_fault 0 = .ok (.aload_n 0, 1) := by decide +kernel
theorem dX6_fault_1 : decode cX6_fault 1 = .ok (.getfield 44, 3) := by decide +kernel
theorem dX6_fault_4 : decode cX6_fault 4 = .ok (.invokevirtual 180, 3) := by decide +kernel
theorem dX6_fault_7 : decode cX6_fault 7 = .ok (.ireturn, 1) := by decide +kernel
set_option maxRecDepth 20000 in
theorem ggX6_tries_X4_read : GoodIn wsX6_tries wsX4_read := goodIn_r _ [11, 12, 13, 14, 15, 16, 17, 18, 19, 20, 10, 21, 22, 23, 24, 25, 26, 27, 28, 29, 30, 31, 32, 33, 34, 35, 36, 37, 38, 39, 40, 41, 42, 43, 44, 45, 46, 47, 48, 49, 50, 51, 52, 53, 54, 55, 56, 57, 58, 59, 60, 61, 62, 63, 64, 65, 66, 67, 68, 69, 70, 71, 72, 73, 74, 75, 76, 77, 78, 79, 80, 81, 82, 83, 84, 85, 86, 87, 88, 89, 90, 91, 92, 93, 94, 95, 96, 97, 98, 99, 100, 101, 102, 103, 104, 105, 106, 107, 108, 109, 110, 111, 112, 113, 114, 115, 116, 117, 118, 119, 120, 121, 122, 123, 124, 125, 126, 144, 145, 146, 147, 148, 149, 150, 151] (by decide +kernel) (by decide +kernel)
set_option maxRecDepth 20000 in
theorem gX6_tries_X4_read : GoodIn wsX6_tries (wsV RX6 180 RX4 yX4_read wsX4_read) := goodIn_app (goodIn_of _ (by decide +kernel)) ggX6_tries_X4_read
set_option maxRecDepth 20000 in
theorem ggX6_tries_X5_take : GoodIn wsX6_tries wsX5_take := goodIn_r _ [130, 121, 131, 132, 133, 134, 122, 120, 149, 150, 151] (by decide +kernel) (by decide +kernel)
set_option maxRecDepth 20000 in
theorem gX6_tries_X5_take : GoodIn wsX6_tries (wsV RX6 190 RX5 yX5_take wsX5_take) := goodIn_app (goodIn_of _ (by decide +kernel)) ggX6_tries_X5_take
theorem dX6_tries_0 : decode cX6_tries 0 = .ok (.aload_n 0, 1) := by decide +kernel
theorem dX6_tries_1 : decode cX6_tries 1 = .ok (.getfield 44, 3) := by decide +kernel
theorem dX6_tries_4 : decode cX6_tries 4 = .ok (.invokevirtual 180, 3) := by decide +kernel
theorem dX6_tries_7 : decode cX6_tries 7 = .ok (.bipush (-6), 2) := by decide +kernel
theorem dX6_tries_9 : decode cX6_tries 9 = .ok (.if_icmp .eq 6, 3) := by decide +kernel
theorem dX6_tries_12 : decode cX6_tries 12 = .ok (.bipush (-5), 2) := by decide +kernel
theorem dX6_tries_14 : decode cX6_tries 14 = .ok (.ireturn, 1) := by decide +kernel
theorem dX6_tries_15 : decode cX6_tries 15 = .ok (.aload_n 0, 1) := by decide +kernel
theorem dX6_tries_16 : decode cX6_tries 16 = .ok (.getfield 10, 3) := by decide +kernel
theorem dX6_tries_19 : decode cX6_tries 19 = .ok (.getfield 183, 3) := by decide +kernel
theorem dX6_tries_22 : decode cX6_tries 22 = .ok (.aload_n 0, 1) := by decide +kernel
theorem dX6_tries_23 : decode cX6_tries 23 = .ok (.getfield 44, 3) := by decide +kernel
theorem dX6_tries_26 : decode cX6_tries 26 = .ok (.getfield 187, 3) := by decide +kernel
theorem dX6_tries_29 : decode cX6_tries 29 = .ok (.invokevirtual 190, 3) := by decide +kernel
theorem dX6_tries_32 : decode cX6_tries 32 = .ok (.aload_n 0, 1) := by decide +kernel
theorem dX6_tries_33 : decode cX6_tries 33 = .ok (.getfield 44, 3) := by decide +kernel
theorem dX6_tries_36 : decode cX6_tries 36 = .ok (.iconst 0, 1) := by decide +kernel
theorem dX6_tries_37 : decode cX6_tries 37 = .ok (.putfield 174, 3) := by decide +kernel
theorem dX6_tries_40 : decode cX6_tries 40 = .ok (.aload_n 0, 1) := by decide +kernel
theorem dX6_tries_41 : decode cX6_tries 41 = .ok (.getfield 10, 3) := by decide +kernel
theorem dX6_tries_44 : decode cX6_tries 44 = .ok (.getfield 183, 3) := by decide +kernel
theorem dX6_tries_47 : decode cX6_tries 47 = .ok (.getfield 196, 3) := by decide +kernel
theorem dX6_tries_50 : decode cX6_tries 50 = .ok (.ireturn, 1) := by decide +kernel
set_option maxRecDepth 20000 in
theorem ggX6_tried_X6_within : GoodIn wsX6_tried wsX6_within := goodIn_r _ [9] (by decide +kernel) (by decide +kernel)
set_option maxRecDepth 20000 in
theorem gX6_tried_X6_within : GoodIn wsX6_tried (va_wsS RX6 52 yX6_within wsX6_within) := goodIn_app (goodIn_of _ (by decide +kernel)) ggX6_tried_X6_within
theorem dX6_tried_0 : decode cX6_tried 0 = .ok (.iload_n 1, 1) := by decide +kernel
theorem dX6_tried_1 : decode cX6_tried 1 = .ok (.iconst 0, 1) := by decide +kernel
theorem dX6_tried_2 : decode cX6_tried 2 = .ok (.aload_n 0, 1) := by decide +kernel
theorem dX6_tried_3 : decode cX6_tried 3 = .ok (.getfield 10, 3) := by decide +kernel
theorem dX6_tried_6 : decode cX6_tried 6 = .ok (.getfield 183, 3) := by decide +kernel
theorem dX6_tried_9 : decode cX6_tried 9 = .ok (.getfield 196, 3) := by decide +kernel
theorem dX6_tried_12 : decode cX6_tried 12 = .ok (.iconst 1, 1) := by decide +kernel
theorem dX6_tried_13 : decode cX6_tried 13 = .ok (.isub, 1) := by decide +kernel
theorem dX6_tried_14 : decode cX6_tried 14 = .ok (.invokestatic 52, 3) := by decide +kernel
theorem dX6_tried_17 : decode cX6_tried 17 = .ok (.ifCond .ne 5, 3) := by decide +kernel
theorem dX6_tried_20 : decode cX6_tried 20 = .ok (.iconst (-1), 1) := by decide +kernel
theorem dX6_tried_21 : decode cX6_tried 21 = .ok (.ireturn, 1) := by decide +kernel
theorem dX6_tried_22 : decode cX6_tried 22 = .ok (.iload_n 2, 1) := by decide +kernel
theorem dX6_tried_23 : decode cX6_tried 23 = .ok (.ifCond .ne 16, 3) := by decide +kernel
theorem dX6_tried_26 : decode cX6_tried 26 = .ok (.aload_n 0, 1) := by decide +kernel
theorem dX6_tried_27 : decode cX6_tried 27 = .ok (.getfield 10, 3) := by decide +kernel
theorem dX6_tried_30 : decode cX6_tried 30 = .ok (.getfield 183, 3) := by decide +kernel
theorem dX6_tried_33 : decode cX6_tried 33 = .ok (.getfield 197, 3) := by decide +kernel
theorem dX6_tried_36 : decode cX6_tried 36 = .ok (.iload_n 1, 1) := by decide +kernel
theorem dX6_tried_37 : decode cX6_tried 37 = .ok (.iaload, 1) := by decide +kernel
theorem dX6_tried_38 : decode cX6_tried 38 = .ok (.ireturn, 1) := by decide +kernel
theorem dX6_tried_39 : decode cX6_tried 39 = .ok (.iload_n 2, 1) := by decide +kernel
theorem dX6_tried_40 : decode cX6_tried 40 = .ok (.iconst 1, 1) := by decide +kernel
theorem dX6_tried_41 : decode cX6_tried 41 = .ok (.if_icmp .ne 16, 3) := by decide +kernel
theorem dX6_tried_44 : decode cX6_tried 44 = .ok (.aload_n 0, 1) := by decide +kernel
theorem dX6_tried_45 : decode cX6_tried 45 = .ok (.getfield 10, 3) := by decide +kernel
theorem dX6_tried_48 : decode cX6_tried 48 = .ok (.getfield 183, 3) := by decide +kernel
theorem dX6_tried_51 : decode cX6_tried 51 = .ok (.getfield 200, 3) := by decide +kernel
theorem dX6_tried_54 : decode cX6_tried 54 = .ok (.iload_n 1, 1) := by decide +kernel
theorem dX6_tried_55 : decode cX6_tried 55 = .ok (.iaload, 1) := by decide +kernel
theorem dX6_tried_56 : decode cX6_tried 56 = .ok (.ireturn, 1) := by decide +kernel
theorem dX6_tried_57 : decode cX6_tried 57 = .ok (.bipush (-2), 2) := by decide +kernel
theorem dX6_tried_59 : decode cX6_tried 59 = .ok (.ireturn, 1) := by decide +kernel
set_option maxRecDepth 20000 in
theorem ggX6_said_X6_within : GoodIn wsX6_said wsX6_within := goodIn_r _ [6] (by decide +kernel) (by decide +kernel)
set_option maxRecDepth 20000 in
theorem gX6_said_X6_within : GoodIn wsX6_said (va_wsS RX6 52 yX6_within wsX6_within) := goodIn_app (goodIn_of _ (by decide +kernel)) ggX6_said_X6_within
set_option maxRecDepth 20000 in
theorem ggX6_said_X5_pairsBy : GoodIn wsX6_said wsX5_pairsBy := goodIn_r _ [11, 12, 13, 14, 24, 25, 26] (by decide +kernel) (by decide +kernel)
set_option maxRecDepth 20000 in
theorem gX6_said_X5_pairsBy : GoodIn wsX6_said (wsV RX6 203 RX5 yX5_pairsBy wsX5_pairsBy) := goodIn_app (goodIn_of _ (by decide +kernel)) ggX6_said_X5_pairsBy
theorem dX6_said_0 : decode cX6_said 0 = .ok (.iload_n 1, 1) := by decide +kernel
theorem dX6_said_1 : decode cX6_said 1 = .ok (.iconst 0, 1) := by decide +kernel
theorem dX6_said_2 : decode cX6_said 2 = .ok (.iconst 3, 1) := by decide +kernel
theorem dX6_said_3 : decode cX6_said 3 = .ok (.invokestatic 52, 3) := by decide +kernel
theorem dX6_said_6 : decode cX6_said 6 = .ok (.ifCond .ne 5, 3) := by decide +kernel
theorem dX6_said_9 : decode cX6_said 9 = .ok (.iconst (-1), 1) := by decide +kernel
theorem dX6_said_10 : decode cX6_said 10 = .ok (.ireturn, 1) := by decide +kernel
theorem dX6_said_11 : decode cX6_said 11 = .ok (.iload_n 2, 1) := by decide +kernel
theorem dX6_said_12 : decode cX6_said 12 = .ok (.iconst 0, 1) := by decide +kernel
theorem dX6_said_13 : decode cX6_said 13 = .ok (.iconst 1, 1) := by decide +kernel
theorem dX6_said_14 : decode cX6_said 14 = .ok (.invokestatic 52, 3) := by decide +kernel
theorem dX6_said_17 : decode cX6_said 17 = .ok (.ifCond .ne 6, 3) := by decide +kernel
theorem dX6_said_20 : decode cX6_said 20 = .ok (.bipush (-2), 2) := by decide +kernel
theorem dX6_said_22 : decode cX6_said 22 = .ok (.ireturn, 1) := by decide +kernel
theorem dX6_said_23 : decode cX6_said 23 = .ok (.aload_n 0, 1) := by decide +kernel
theorem dX6_said_24 : decode cX6_said 24 = .ok (.getfield 10, 3) := by decide +kernel
theorem dX6_said_27 : decode cX6_said 27 = .ok (.getfield 183, 3) := by decide +kernel
theorem dX6_said_30 : decode cX6_said 30 = .ok (.iconst 1, 1) := by decide +kernel
theorem dX6_said_31 : decode cX6_said 31 = .ok (.iload_n 1, 1) := by decide +kernel
theorem dX6_said_32 : decode cX6_said 32 = .ok (.ishl, 1) := by decide +kernel
theorem dX6_said_33 : decode cX6_said 33 = .ok (.iload_n 2, 1) := by decide +kernel
theorem dX6_said_34 : decode cX6_said 34 = .ok (.iconst 1, 1) := by decide +kernel
theorem dX6_said_35 : decode cX6_said 35 = .ok (.if_icmp .ne 7, 3) := by decide +kernel
theorem dX6_said_38 : decode cX6_said 38 = .ok (.iconst 1, 1) := by decide +kernel
theorem dX6_said_39 : decode cX6_said 39 = .ok (.goto 4, 3) := by decide +kernel
theorem dX6_said_42 : decode cX6_said 42 = .ok (.iconst 0, 1) := by decide +kernel
theorem dX6_said_43 : decode cX6_said 43 = .ok (.invokevirtual 203, 3) := by decide +kernel
theorem dX6_said_46 : decode cX6_said 46 = .ok (.ireturn, 1) := by decide +kernel
set_option maxRecDepth 20000 in
theorem ggX6_ask_X5_has : GoodIn wsX6_ask wsX5_has := goodIn_r _ [7, 8, 9, 30, 31, 32] (by decide +kernel) (by decide +kernel)
set_option maxRecDepth 20000 in
theorem gX6_ask_X5_has : GoodIn wsX6_ask (wsV RX6 207 RX5 yX5_has wsX5_has) := goodIn_app (goodIn_of _ (by decide +kernel)) ggX6_ask_X5_has
set_option maxRecDepth 20000 in
theorem ggX6_ask_X5_neighbours : GoodIn wsX6_ask wsX5_neighbours := goodIn_r _ [13, 8, 9, 14, 15, 16, 17, 18, 19, 20, 30, 31, 32] (by decide +kernel) (by decide +kernel)
set_option maxRecDepth 20000 in
theorem gX6_ask_X5_neighbours : GoodIn wsX6_ask (wsV RX6 210 RX5 yX5_neighbours wsX5_neighbours) := goodIn_app (goodIn_of _ (by decide +kernel)) ggX6_ask_X5_neighbours
theorem dX6_ask_0 : decode cX6_ask 0 = .ok (.bipush (-6), 2) := by decide +kernel
theorem dX6_ask_2 : decode cX6_ask 2 = .ok (.istore_n 1, 1) := by decide +kernel
theorem dX6_ask_3 : decode cX6_ask 3 = .ok (.iconst (-1), 1) := by decide +kernel
theorem dX6_ask_4 : decode cX6_ask 4 = .ok (.istore_n 2, 1) := by decide +kernel
theorem dX6_ask_5 : decode cX6_ask 5 = .ok (.iconst 0, 1) := by decide +kernel
theorem dX6_ask_6 : decode cX6_ask 6 = .ok (.istore_n 3, 1) := by decide +kernel
theorem dX6_ask_7 : decode cX6_ask 7 = .ok (.iload_n 3, 1) := by decide +kernel
theorem dX6_ask_8 : decode cX6_ask 8 = .ok (.bipush 16, 2) := by decide +kernel
theorem dX6_ask_10 : decode cX6_ask 10 = .ok (.if_icmp .ge 47, 3) := by decide +kernel
theorem dX6_ask_13 : decode cX6_ask 13 = .ok (.aload_n 0, 1) := by decide +kernel
theorem dX6_ask_14 : decode cX6_ask 14 = .ok (.getfield 10, 3) := by decide +kernel
theorem dX6_ask_17 : decode cX6_ask 17 = .ok (.getfield 183, 3) := by decide +kernel
theorem dX6_ask_20 : decode cX6_ask 20 = .ok (.iload_n 3, 1) := by decide +kernel
theorem dX6_ask_21 : decode cX6_ask 21 = .ok (.invokevirtual 207, 3) := by decide +kernel
theorem dX6_ask_24 : decode cX6_ask 24 = .ok (.ifCond .ne 27, 3) := by decide +kernel
theorem dX6_ask_27 : decode cX6_ask 27 = .ok (.aload_n 0, 1) := by decide +kernel
theorem dX6_ask_28 : decode cX6_ask 28 = .ok (.getfield 10, 3) := by decide +kernel
