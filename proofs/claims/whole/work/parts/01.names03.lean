theorem dX6_ask_31 : decode cX6_ask 31 = .ok (.getfield 183, 3) := by decide +kernel
theorem dX6_ask_34 : decode cX6_ask 34 = .ok (.iload_n 3, 1) := by decide +kernel
theorem dX6_ask_35 : decode cX6_ask 35 = .ok (.invokevirtual 210, 3) := by decide +kernel
theorem dX6_ask_38 : decode cX6_ask 38 = .ok (.istore 4, 2) := by decide +kernel
theorem dX6_ask_40 : decode cX6_ask 40 = .ok (.iload 4, 2) := by decide +kernel
theorem dX6_ask_42 : decode cX6_ask 42 = .ok (.iload_n 2, 1) := by decide +kernel
theorem dX6_ask_43 : decode cX6_ask 43 = .ok (.if_icmp .le 8, 3) := by decide +kernel
theorem dX6_ask_46 : decode cX6_ask 46 = .ok (.iload 4, 2) := by decide +kernel
theorem dX6_ask_48 : decode cX6_ask 48 = .ok (.istore_n 2, 1) := by decide +kernel
theorem dX6_ask_49 : decode cX6_ask 49 = .ok (.iload_n 3, 1) := by decide +kernel
theorem dX6_ask_50 : decode cX6_ask 50 = .ok (.istore_n 1, 1) := by decide +kernel
theorem dX6_ask_51 : decode cX6_ask 51 = .ok (.iinc 3 1, 3) := by decide +kernel
theorem dX6_ask_54 : decode cX6_ask 54 = .ok (.goto (-47), 3) := by decide +kernel
theorem dX6_ask_57 : decode cX6_ask 57 = .ok (.iload_n 1, 1) := by decide +kernel
theorem dX6_ask_58 : decode cX6_ask 58 = .ok (.ireturn, 1) := by decide +kernel
set_option maxRecDepth 20000 in
theorem ggX6_draw_X6_within : GoodIn wsX6_draw wsX6_within := goodIn_r _ [6] (by decide +kernel) (by decide +kernel)
set_option maxRecDepth 20000 in
theorem gX6_draw_X6_within : GoodIn wsX6_draw (va_wsS RX6 52 yX6_within wsX6_within) := goodIn_app (goodIn_of _ (by decide +kernel)) ggX6_draw_X6_within
set_option maxRecDepth 20000 in
theorem ggX6_draw_X6_isMeaning : GoodIn wsX6_draw wsX6_isMeaning := goodIn_r _ [9, 3, 4, 5, 6] (by decide +kernel) (by decide +kernel)
set_option maxRecDepth 20000 in
theorem gX6_draw_X6_isMeaning : GoodIn wsX6_draw (va_wsS RX6 95 yX6_isMeaning wsX6_isMeaning) := goodIn_app (goodIn_of _ (by decide +kernel)) ggX6_draw_X6_isMeaning
set_option maxRecDepth 20000 in
theorem ggX6_draw_X6_isFirst : GoodIn wsX6_draw wsX6_isFirst := goodIn_r _ [12, 3, 4, 5, 6] (by decide +kernel) (by decide +kernel)
set_option maxRecDepth 20000 in
theorem gX6_draw_X6_isFirst : GoodIn wsX6_draw (va_wsS RX6 130 yX6_isFirst wsX6_isFirst) := goodIn_app (goodIn_of _ (by decide +kernel)) ggX6_draw_X6_isFirst
set_option maxRecDepth 20000 in
theorem ggX6_draw_X6_readNeedles : GoodIn wsX6_draw wsX6_readNeedles := goodIn_r _ [16, 17, 18, 19, 20, 21, 22, 23, 24, 25, 26, 27, 28, 29, 30, 31, 32, 5, 33, 34, 35, 36, 37, 38, 39, 40, 41, 42, 43, 44, 45, 46, 47, 48, 49, 50, 51, 52, 53, 54, 55, 56, 57, 58, 59, 60, 61, 62, 63, 64, 65, 66, 67, 68, 4, 6, 69, 70, 71, 72, 73, 74, 75, 76, 77, 78, 79, 80, 81, 82, 83, 84, 85, 86, 87, 88, 89, 90, 91, 92, 93, 94, 95, 96, 97, 98, 99, 100, 101, 102, 103, 104, 105, 106, 107, 108, 109, 110, 111, 112, 113, 114, 115, 116, 117, 130, 131, 132, 133, 134, 135, 136, 137, 138, 139, 140, 141, 142, 143, 144, 145, 146, 147, 148, 149, 150, 151, 152, 153, 154, 155, 156, 157, 158, 159, 160, 161, 162, 163] (by decide +kernel) (by decide +kernel)
set_option maxRecDepth 20000 in
theorem gX6_draw_X6_readNeedles : GoodIn wsX6_draw (wsV RX6 138 RX6 yX6_readNeedles wsX6_readNeedles) := goodIn_app (goodIn_of _ (by decide +kernel)) ggX6_draw_X6_readNeedles
set_option maxRecDepth 20000 in
theorem ggX6_draw_X6_nextDraw : GoodIn wsX6_draw wsX6_nextDraw := goodIn_r _ [120, 121] (by decide +kernel) (by decide +kernel)
set_option maxRecDepth 20000 in
theorem gX6_draw_X6_nextDraw : GoodIn wsX6_draw (va_wsS RX6 213 yX6_nextDraw wsX6_nextDraw) := goodIn_app (goodIn_of _ (by decide +kernel)) ggX6_draw_X6_nextDraw
set_option maxRecDepth 20000 in
theorem ggX6_draw_X1_timeDrawn : GoodIn wsX6_draw wsX1_timeDrawn := goodIn_r _ [125, 27, 28, 126, 143, 144, 145] (by decide +kernel) (by decide +kernel)
set_option maxRecDepth 20000 in
theorem gX6_draw_X1_timeDrawn : GoodIn wsX6_draw (wsV RX6 216 RX1 yX1_timeDrawn wsX1_timeDrawn) := goodIn_app (goodIn_of _ (by decide +kernel)) ggX6_draw_X1_timeDrawn
set_option maxRecDepth 20000 in
theorem ggX6_draw_X6_earlier : GoodIn wsX6_draw wsX6_earlier := goodIn_r _ [129] (by decide +kernel) (by decide +kernel)
set_option maxRecDepth 20000 in
theorem gX6_draw_X6_earlier : GoodIn wsX6_draw (va_wsS RX6 127 yX6_earlier wsX6_earlier) := goodIn_app (goodIn_of _ (by decide +kernel)) ggX6_draw_X6_earlier
theorem dX6_draw_0 : decode cX6_draw 0 = .ok (.iload_n 1, 1) := by decide +kernel
theorem dX6_draw_1 : decode cX6_draw 1 = .ok (.iconst 0, 1) := by decide +kernel
theorem dX6_draw_2 : decode cX6_draw 2 = .ok (.sipush 9999, 3) := by decide +kernel
theorem dX6_draw_5 : decode cX6_draw 5 = .ok (.invokestatic 52, 3) := by decide +kernel
theorem dX6_draw_8 : decode cX6_draw 8 = .ok (.ifCond .eq 14, 3) := by decide +kernel
theorem dX6_draw_11 : decode cX6_draw 11 = .ok (.iload_n 2, 1) := by decide +kernel
theorem dX6_draw_12 : decode cX6_draw 12 = .ok (.iconst 1, 1) := by decide +kernel
theorem dX6_draw_13 : decode cX6_draw 13 = .ok (.sipush 300, 3) := by decide +kernel
theorem dX6_draw_16 : decode cX6_draw 16 = .ok (.invokestatic 52, 3) := by decide +kernel
theorem dX6_draw_19 : decode cX6_draw 19 = .ok (.ifCond .ne 6, 3) := by decide +kernel
theorem dX6_draw_22 : decode cX6_draw 22 = .ok (.bipush (-2), 2) := by decide +kernel
theorem dX6_draw_24 : decode cX6_draw 24 = .ok (.ireturn, 1) := by decide +kernel
theorem dX6_draw_25 : decode cX6_draw 25 = .ok (.iload_n 3, 1) := by decide +kernel
theorem dX6_draw_26 : decode cX6_draw 26 = .ok (.invokestatic 95, 3) := by decide +kernel
theorem dX6_draw_29 : decode cX6_draw 29 = .ok (.ifCond .eq 11, 3) := by decide +kernel
theorem dX6_draw_32 : decode cX6_draw 32 = .ok (.iload 4, 2) := by decide +kernel
theorem dX6_draw_34 : decode cX6_draw 34 = .ok (.invokestatic 130, 3) := by decide +kernel
theorem dX6_draw_37 : decode cX6_draw 37 = .ok (.ifCond .ne 6, 3) := by decide +kernel
theorem dX6_draw_40 : decode cX6_draw 40 = .ok (.bipush (-2), 2) := by decide +kernel
theorem dX6_draw_42 : decode cX6_draw 42 = .ok (.ireturn, 1) := by decide +kernel
theorem dX6_draw_43 : decode cX6_draw 43 = .ok (.aload_n 0, 1) := by decide +kernel
theorem dX6_draw_44 : decode cX6_draw 44 = .ok (.aload_n 0, 1) := by decide +kernel
theorem dX6_draw_45 : decode cX6_draw 45 = .ok (.getfield 34, 3) := by decide +kernel
theorem dX6_draw_48 : decode cX6_draw 48 = .ok (.iconst 0, 1) := by decide +kernel
theorem dX6_draw_49 : decode cX6_draw 49 = .ok (.iload_n 3, 1) := by decide +kernel
theorem dX6_draw_50 : decode cX6_draw 50 = .ok (.invokevirtual 138, 3) := by decide +kernel
theorem dX6_draw_53 : decode cX6_draw 53 = .ok (.aload_n 0, 1) := by decide +kernel
theorem dX6_draw_54 : decode cX6_draw 54 = .ok (.aload_n 0, 1) := by decide +kernel
theorem dX6_draw_55 : decode cX6_draw 55 = .ok (.getfield 38, 3) := by decide +kernel
theorem dX6_draw_58 : decode cX6_draw 58 = .ok (.iconst 1, 1) := by decide +kernel
theorem dX6_draw_59 : decode cX6_draw 59 = .ok (.iload_n 3, 1) := by decide +kernel
theorem dX6_draw_60 : decode cX6_draw 60 = .ok (.invokevirtual 138, 3) := by decide +kernel
theorem dX6_draw_63 : decode cX6_draw 63 = .ok (.iload_n 1, 1) := by decide +kernel
theorem dX6_draw_64 : decode cX6_draw 64 = .ok (.istore 5, 2) := by decide +kernel
theorem dX6_draw_66 : decode cX6_draw 66 = .ok (.iconst 0, 1) := by decide +kernel
theorem dX6_draw_67 : decode cX6_draw 67 = .ok (.istore 6, 2) := by decide +kernel
theorem dX6_draw_69 : decode cX6_draw 69 = .ok (.iconst 0, 1) := by decide +kernel
theorem dX6_draw_70 : decode cX6_draw 70 = .ok (.istore 7, 2) := by decide +kernel
theorem dX6_draw_72 : decode cX6_draw 72 = .ok (.iload 7, 2) := by decide +kernel
theorem dX6_draw_74 : decode cX6_draw 74 = .ok (.iload_n 2, 1) := by decide +kernel
theorem dX6_draw_75 : decode cX6_draw 75 = .ok (.if_icmp .ge 60, 3) := by decide +kernel
theorem dX6_draw_78 : decode cX6_draw 78 = .ok (.iload 5, 2) := by decide +kernel
theorem dX6_draw_80 : decode cX6_draw 80 = .ok (.invokestatic 213, 3) := by decide +kernel
theorem dX6_draw_83 : decode cX6_draw 83 = .ok (.istore 5, 2) := by decide +kernel
theorem dX6_draw_85 : decode cX6_draw 85 = .ok (.aload_n 0, 1) := by decide +kernel
theorem dX6_draw_86 : decode cX6_draw 86 = .ok (.getfield 34, 3) := by decide +kernel
theorem dX6_draw_89 : decode cX6_draw 89 = .ok (.iload 5, 2) := by decide +kernel
theorem dX6_draw_91 : decode cX6_draw 91 = .ok (.invokevirtual 216, 3) := by decide +kernel
theorem dX6_draw_94 : decode cX6_draw 94 = .ok (.istore 8, 2) := by decide +kernel
theorem dX6_draw_96 : decode cX6_draw 96 = .ok (.iload 5, 2) := by decide +kernel
theorem dX6_draw_98 : decode cX6_draw 98 = .ok (.invokestatic 213, 3) := by decide +kernel
theorem dX6_draw_101 : decode cX6_draw 101 = .ok (.istore 5, 2) := by decide +kernel
theorem dX6_draw_103 : decode cX6_draw 103 = .ok (.aload_n 0, 1) := by decide +kernel
theorem dX6_draw_104 : decode cX6_draw 104 = .ok (.getfield 38, 3) := by decide +kernel
theorem dX6_draw_107 : decode cX6_draw 107 = .ok (.iload 5, 2) := by decide +kernel
theorem dX6_draw_109 : decode cX6_draw 109 = .ok (.invokevirtual 216, 3) := by decide +kernel
theorem dX6_draw_112 : decode cX6_draw 112 = .ok (.istore 9, 2) := by decide +kernel
theorem dX6_draw_114 : decode cX6_draw 114 = .ok (.iload 8, 2) := by decide +kernel
theorem dX6_draw_116 : decode cX6_draw 116 = .ok (.iload 9, 2) := by decide +kernel
theorem dX6_draw_118 : decode cX6_draw 118 = .ok (.invokestatic 127, 3) := by decide +kernel
theorem dX6_draw_121 : decode cX6_draw 121 = .ok (.iload 4, 2) := by decide +kernel
theorem dX6_draw_123 : decode cX6_draw 123 = .ok (.if_icmp .ne 6, 3) := by decide +kernel
theorem dX6_draw_126 : decode cX6_draw 126 = .ok (.iinc 6 1, 3) := by decide +kernel
theorem dX6_draw_129 : decode cX6_draw 129 = .ok (.iinc 7 1, 3) := by decide +kernel
theorem dX6_draw_132 : decode cX6_draw 132 = .ok (.goto (-60), 3) := by decide +kernel
theorem dX6_draw_135 : decode cX6_draw 135 = .ok (.iload 6, 2) := by decide +kernel
theorem dX6_draw_137 : decode cX6_draw 137 = .ok (.ireturn, 1) := by decide +kernel
set_option maxRecDepth 20000 in
theorem ggX6_image_X6_within : GoodIn wsX6_image wsX6_within := goodIn_r _ [7] (by decide +kernel) (by decide +kernel)
set_option maxRecDepth 20000 in
theorem gX6_image_X6_within : GoodIn wsX6_image (va_wsS RX6 52 yX6_within wsX6_within) := goodIn_app (goodIn_of _ (by decide +kernel)) ggX6_image_X6_within
set_option maxRecDepth 20000 in
theorem ggX6_image_X0_take : GoodIn wsX6_image wsX0_take := goodIn_r _ [12, 13, 14, 15, 16, 17, 18, 19, 20, 21, 22, 23, 24, 25, 26, 27, 28, 29, 30, 31, 32, 33, 34, 35, 36, 44, 45, 46, 47, 48, 49, 50, 51, 52] (by decide +kernel) (by decide +kernel)
set_option maxRecDepth 20000 in
theorem gX6_image_X0_take : GoodIn wsX6_image (wsV RX6 219 RX0 yX0_take wsX0_take) := goodIn_app (goodIn_of _ (by decide +kernel)) ggX6_image_X0_take
theorem dX6_image_0 : decode cX6_image 0 = .ok (.iload_n 1, 1) := by decide +kernel
theorem dX6_image_1 : decode cX6_image 1 = .ok (.iconst 0, 1) := by decide +kernel
theorem dX6_image_2 : decode cX6_image 2 = .ok (.iconst 1, 1) := by decide +kernel
theorem dX6_image_3 : decode cX6_image 3 = .ok (.invokestatic 52, 3) := by decide +kernel
theorem dX6_image_6 : decode cX6_image 6 = .ok (.ifCond .ne 6, 3) := by decide +kernel
theorem dX6_image_9 : decode cX6_image 9 = .ok (.bipush (-2), 2) := by decide +kernel
theorem dX6_image_11 : decode cX6_image 11 = .ok (.ireturn, 1) := by decide +kernel
theorem dX6_image_12 : decode cX6_image 12 = .ok (.aload_n 0, 1) := by decide +kernel
theorem dX6_image_13 : decode cX6_image 13 = .ok (.getfield 16, 3) := by decide +kernel
theorem dX6_image_16 : decode cX6_image 16 = .ok (.iload_n 1, 1) := by decide +kernel
theorem dX6_image_17 : decode cX6_image 17 = .ok (.aaload, 1) := by decide +kernel
theorem dX6_image_18 : decode cX6_image 18 = .ok (.aload_n 0, 1) := by decide +kernel
theorem dX6_image_19 : decode cX6_image 19 = .ok (.getfield 10, 3) := by decide +kernel
theorem dX6_image_22 : decode cX6_image 22 = .ok (.invokevirtual 219, 3) := by decide +kernel
theorem dX6_image_25 : decode cX6_image 25 = .ok (.aload_n 0, 1) := by decide +kernel
theorem dX6_image_26 : decode cX6_image 26 = .ok (.getfield 20, 3) := by decide +kernel
theorem dX6_image_29 : decode cX6_image 29 = .ok (.iload_n 1, 1) := by decide +kernel
theorem dX6_image_30 : decode cX6_image 30 = .ok (.iconst 1, 1) := by decide +kernel
theorem dX6_image_31 : decode cX6_image 31 = .ok (.bastore, 1) := by decide +kernel
theorem dX6_image_32 : decode cX6_image 32 = .ok (.iconst 1, 1) := by decide +kernel
theorem dX6_image_33 : decode cX6_image 33 = .ok (.ireturn, 1) := by decide +kernel
set_option maxRecDepth 20000 in
theorem ggX6_restore_X6_within : GoodIn wsX6_restore wsX6_within := goodIn_r _ [7] (by decide +kernel) (by decide +kernel)
set_option maxRecDepth 20000 in
theorem gX6_restore_X6_within : GoodIn wsX6_restore (va_wsS RX6 52 yX6_within wsX6_within) := goodIn_app (goodIn_of _ (by decide +kernel)) ggX6_restore_X6_within
set_option maxRecDepth 20000 in
theorem ggX6_restore_X0_take : GoodIn wsX6_restore wsX0_take := goodIn_r _ [12, 13, 14, 15, 16, 17, 18, 19, 20, 21, 22, 23, 24, 25, 26, 27, 28, 29, 30, 31, 32, 33, 34, 35, 36, 44, 45, 46, 47, 48, 49, 50, 51, 52] (by decide +kernel) (by decide +kernel)
set_option maxRecDepth 20000 in
theorem gX6_restore_X0_take : GoodIn wsX6_restore (wsV RX6 219 RX0 yX0_take wsX0_take) := goodIn_app (goodIn_of _ (by decide +kernel)) ggX6_restore_X0_take
theorem dX6_restore_0 : decode cX6_restore 0 = .ok (.iload_n 1, 1) := by decide +kernel
theorem dX6_restore_1 : decode cX6_restore 1 = .ok (.iconst 0, 1) := by decide +kernel
theorem dX6_restore_2 : decode cX6_restore 2 = .ok (.iconst 1, 1) := by decide +kernel
theorem dX6_restore_3 : decode cX6_restore 3 = .ok (.invokestatic 52, 3) := by decide +kernel
theorem dX6_restore_6 : decode cX6_restore 6 = .ok (.ifCond .ne 6, 3) := by decide +kernel
theorem dX6_restore_9 : decode cX6_restore 9 = .ok (.bipush (-2), 2) := by decide +kernel
theorem dX6_restore_11 : decode cX6_restore 11 = .ok (.ireturn, 1) := by decide +kernel
theorem dX6_restore_12 : decode cX6_restore 12 = .ok (.aload_n 0, 1) := by decide +kernel
theorem dX6_restore_13 : decode cX6_restore 13 = .ok (.getfield 20, 3) := by decide +kernel
theorem dX6_restore_16 : decode cX6_restore 16 = .ok (.iload_n 1, 1) := by decide +kernel
theorem dX6_restore_17 : decode cX6_restore 17 = .ok (.baload, 1) := by decide +kernel
theorem dX6_restore_18 : decode cX6_restore 18 = .ok (.ifCond .ne 6, 3) := by decide +kernel
theorem dX6_restore_21 : decode cX6_restore 21 = .ok (.bipush (-3), 2) := by decide +kernel
theorem dX6_restore_23 : decode cX6_restore 23 = .ok (.ireturn, 1) := by decide +kernel
theorem dX6_restore_24 : decode cX6_restore 24 = .ok (.aload_n 0, 1) := by decide +kernel
theorem dX6_restore_25 : decode cX6_restore 25 = .ok (.getfield 10, 3) := by decide +kernel
theorem dX6_restore_28 : decode cX6_restore 28 = .ok (.aload_n 0, 1) := by decide +kernel
theorem dX6_restore_29 : decode cX6_restore 29 = .ok (.getfield 16, 3) := by decide +kernel
theorem dX6_restore_32 : decode cX6_restore 32 = .ok (.iload_n 1, 1) := by decide +kernel
theorem dX6_restore_33 : decode cX6_restore 33 = .ok (.aaload, 1) := by decide +kernel
theorem dX6_restore_34 : decode cX6_restore 34 = .ok (.invokevirtual 219, 3) := by decide +kernel
theorem dX6_restore_37 : decode cX6_restore 37 = .ok (.iconst 1, 1) := by decide +kernel
theorem dX6_restore_38 : decode cX6_restore 38 = .ok (.ireturn, 1) := by decide +kernel
set_option maxRecDepth 20000 in
theorem ggX6_told_X6_within : GoodIn wsX6_told wsX6_within := goodIn_r _ [13] (by decide +kernel) (by decide +kernel)
set_option maxRecDepth 20000 in
theorem gX6_told_X6_within : GoodIn wsX6_told (va_wsS RX6 52 yX6_within wsX6_within) := goodIn_app (goodIn_of _ (by decide +kernel)) ggX6_told_X6_within
theorem dX6_told_0 : decode cX6_told 0 = .ok (.iload_n 1, 1) := by decide +kernel
theorem dX6_told_1 : decode cX6_told 1 = .ok (.ifCond .ne 11, 3) := by decide +kernel
theorem dX6_told_4 : decode cX6_told 4 = .ok (.aload_n 0, 1) := by decide +kernel
theorem dX6_told_5 : decode cX6_told 5 = .ok (.getfield 44, 3) := by decide +kernel
theorem dX6_told_8 : decode cX6_told 8 = .ok (.getfield 174, 3) := by decide +kernel
theorem dX6_told_11 : decode cX6_told 11 = .ok (.ireturn, 1) := by decide +kernel
theorem dX6_told_12 : decode cX6_told 12 = .ok (.iload_n 1, 1) := by decide +kernel
theorem dX6_told_13 : decode cX6_told 13 = .ok (.iconst 1, 1) := by decide +kernel
theorem dX6_told_14 : decode cX6_told 14 = .ok (.if_icmp .ne 14, 3) := by decide +kernel
theorem dX6_told_17 : decode cX6_told 17 = .ok (.aload_n 0, 1) := by decide +kernel
theorem dX6_told_18 : decode cX6_told 18 = .ok (.getfield 10, 3) := by decide +kernel
theorem dX6_told_21 : decode cX6_told 21 = .ok (.getfield 183, 3) := by decide +kernel
theorem dX6_told_24 : decode cX6_told 24 = .ok (.getfield 196, 3) := by decide +kernel
theorem dX6_told_27 : decode cX6_told 27 = .ok (.ireturn, 1) := by decide +kernel
theorem dX6_told_28 : decode cX6_told 28 = .ok (.iload_n 1, 1) := by decide +kernel
theorem dX6_told_29 : decode cX6_told 29 = .ok (.iconst 2, 1) := by decide +kernel
theorem dX6_told_30 : decode cX6_told 30 = .ok (.iconst 3, 1) := by decide +kernel
theorem dX6_told_31 : decode cX6_told 31 = .ok (.invokestatic 52, 3) := by decide +kernel
theorem dX6_told_34 : decode cX6_told 34 = .ok (.ifCond .eq 18, 3) := by decide +kernel
theorem dX6_told_37 : decode cX6_told 37 = .ok (.aload_n 0, 1) := by decide +kernel
theorem dX6_told_38 : decode cX6_told 38 = .ok (.getfield 10, 3) := by decide +kernel
theorem dX6_told_41 : decode cX6_told 41 = .ok (.getfield 56, 3) := by decide +kernel
theorem dX6_told_44 : decode cX6_told 44 = .ok (.getfield 60, 3) := by decide +kernel
theorem dX6_told_47 : decode cX6_told 47 = .ok (.iload_n 1, 1) := by decide +kernel
theorem dX6_told_48 : decode cX6_told 48 = .ok (.iconst 2, 1) := by decide +kernel
theorem dX6_told_49 : decode cX6_told 49 = .ok (.isub, 1) := by decide +kernel
theorem dX6_told_50 : decode cX6_told 50 = .ok (.iaload, 1) := by decide +kernel
theorem dX6_told_51 : decode cX6_told 51 = .ok (.ireturn, 1) := by decide +kernel
theorem dX6_told_52 : decode cX6_told 52 = .ok (.iload_n 1, 1) := by decide +kernel
theorem dX6_told_53 : decode cX6_told 53 = .ok (.iconst 4, 1) := by decide +kernel
theorem dX6_told_54 : decode cX6_told 54 = .ok (.iconst 5, 1) := by decide +kernel
theorem dX6_told_55 : decode cX6_told 55 = .ok (.invokestatic 52, 3) := by decide +kernel
theorem dX6_told_58 : decode cX6_told 58 = .ok (.ifCond .eq 18, 3) := by decide +kernel
theorem dX6_told_61 : decode cX6_told 61 = .ok (.aload_n 0, 1) := by decide +kernel
theorem dX6_told_62 : decode cX6_told 62 = .ok (.getfield 10, 3) := by decide +kernel
theorem dX6_told_65 : decode cX6_told 65 = .ok (.getfield 56, 3) := by decide +kernel
theorem dX6_told_68 : decode cX6_told 68 = .ok (.getfield 70, 3) := by decide +kernel
theorem dX6_told_71 : decode cX6_told 71 = .ok (.iload_n 1, 1) := by decide +kernel
theorem dX6_told_72 : decode cX6_told 72 = .ok (.iconst 4, 1) := by decide +kernel
theorem dX6_told_73 : decode cX6_told 73 = .ok (.isub, 1) := by decide +kernel
theorem dX6_told_74 : decode cX6_told 74 = .ok (.iaload, 1) := by decide +kernel
theorem dX6_told_75 : decode cX6_told 75 = .ok (.ireturn, 1) := by decide +kernel
theorem dX6_told_76 : decode cX6_told 76 = .ok (.iload_n 1, 1) := by decide +kernel
theorem dX6_told_77 : decode cX6_told 77 = .ok (.bipush 10, 2) := by decide +kernel
theorem dX6_told_79 : decode cX6_told 79 = .ok (.bipush 20, 2) := by decide +kernel
theorem dX6_told_81 : decode cX6_told 81 = .ok (.invokestatic 52, 3) := by decide +kernel
theorem dX6_told_84 : decode cX6_told 84 = .ok (.ifCond .eq 19, 3) := by decide +kernel
theorem dX6_told_87 : decode cX6_told 87 = .ok (.aload_n 0, 1) := by decide +kernel
theorem dX6_told_88 : decode cX6_told 88 = .ok (.getfield 10, 3) := by decide +kernel
theorem dX6_told_91 : decode cX6_told 91 = .ok (.getfield 56, 3) := by decide +kernel
theorem dX6_told_94 : decode cX6_told 94 = .ok (.getfield 89, 3) := by decide +kernel
theorem dX6_told_97 : decode cX6_told 97 = .ok (.iload_n 1, 1) := by decide +kernel
theorem dX6_told_98 : decode cX6_told 98 = .ok (.bipush 10, 2) := by decide +kernel
theorem dX6_told_100 : decode cX6_told 100 = .ok (.isub, 1) := by decide +kernel
theorem dX6_told_101 : decode cX6_told 101 = .ok (.iaload, 1) := by decide +kernel
theorem dX6_told_102 : decode cX6_told 102 = .ok (.ireturn, 1) := by decide +kernel
theorem dX6_told_103 : decode cX6_told 103 = .ok (.bipush (-2), 2) := by decide +kernel
theorem dX6_told_105 : decode cX6_told 105 = .ok (.ireturn, 1) := by decide +kernel
theorem dX6_within_0 : decode cX6_within 0 = .ok (.iload_n 0, 1) := by decide +kernel
theorem dX6_within_1 : decode cX6_within 1 = .ok (.iload_n 1, 1) := by decide +kernel
theorem dX6_within_2 : decode cX6_within 2 = .ok (.if_icmp .lt 12, 3) := by decide +kernel
theorem dX6_within_5 : decode cX6_within 5 = .ok (.iload_n 0, 1) := by decide +kernel
theorem dX6_within_6 : decode cX6_within 6 = .ok (.iload_n 2, 1) := by decide +kernel
theorem dX6_within_7 : decode cX6_within 7 = .ok (.if_icmp .gt 7, 3) := by decide +kernel
theorem dX6_within_10 : decode cX6_within 10 = .ok (.iconst 1, 1) := by decide +kernel
theorem dX6_within_11 : decode cX6_within 11 = .ok (.goto 4, 3) := by decide +kernel
theorem dX6_within_14 : decode cX6_within 14 = .ok (.iconst 0, 1) := by decide +kernel
theorem dX6_within_15 : decode cX6_within 15 = .ok (.ireturn, 1) := by decide +kernel
set_option maxRecDepth 20000 in
theorem ggX6_isPail_X6_within : GoodIn wsX6_isPail wsX6_within := goodIn_r _ [4] (by decide +kernel) (by decide +kernel)
set_option maxRecDepth 20000 in
theorem gX6_isPail_X6_within : GoodIn wsX6_isPail (va_wsS RX6 52 yX6_within wsX6_within) := goodIn_app (goodIn_of _ (by decide +kernel)) ggX6_isPail_X6_within
theorem dX6_isPail_0 : decode cX6_isPail 0 = .ok (.iload_n 0, 1) := by decide +kernel
theorem dX6_isPail_1 : decode cX6_isPail 1 = .ok (.iconst 0, 1) := by decide +kernel
theorem dX6_isPail_2 : decode cX6_isPail 2 = .ok (.iconst 1, 1) := by decide +kernel
theorem dX6_isPail_3 : decode cX6_isPail 3 = .ok (.invokestatic 52, 3) := by decide +kernel
theorem dX6_isPail_6 : decode cX6_isPail 6 = .ok (.ireturn, 1) := by decide +kernel
set_option maxRecDepth 20000 in
theorem ggX6_isDegree_X6_within : GoodIn wsX6_isDegree wsX6_within := goodIn_r _ [4] (by decide +kernel) (by decide +kernel)
set_option maxRecDepth 20000 in
theorem gX6_isDegree_X6_within : GoodIn wsX6_isDegree (va_wsS RX6 52 yX6_within wsX6_within) := goodIn_app (goodIn_of _ (by decide +kernel)) ggX6_isDegree_X6_within
theorem dX6_isDegree_0 : decode cX6_isDegree 0 = .ok (.iload_n 0, 1) := by decide +kernel
theorem dX6_isDegree_1 : decode cX6_isDegree 1 = .ok (.iconst 0, 1) := by decide +kernel
theorem dX6_isDegree_2 : decode cX6_isDegree 2 = .ok (.bipush 9, 2) := by decide +kernel
theorem dX6_isDegree_4 : decode cX6_isDegree 4 = .ok (.invokestatic 52, 3) := by decide +kernel
theorem dX6_isDegree_7 : decode cX6_isDegree 7 = .ok (.ireturn, 1) := by decide +kernel
set_option maxRecDepth 20000 in
theorem ggX6_isMeaning_X6_within : GoodIn wsX6_isMeaning wsX6_within := goodIn_r _ [4] (by decide +kernel) (by decide +kernel)
set_option maxRecDepth 20000 in
theorem gX6_isMeaning_X6_within : GoodIn wsX6_isMeaning (va_wsS RX6 52 yX6_within wsX6_within) := goodIn_app (goodIn_of _ (by decide +kernel)) ggX6_isMeaning_X6_within
theorem dX6_isMeaning_0 : decode cX6_isMeaning 0 = .ok (.iload_n 0, 1) := by decide +kernel
theorem dX6_isMeaning_1 : decode cX6_isMeaning 1 = .ok (.iconst 0, 1) := by decide +kernel
theorem dX6_isMeaning_2 : decode cX6_isMeaning 2 = .ok (.iconst 2, 1) := by decide +kernel
theorem dX6_isMeaning_3 : decode cX6_isMeaning 3 = .ok (.invokestatic 52, 3) := by decide +kernel
theorem dX6_isMeaning_6 : decode cX6_isMeaning 6 = .ok (.ireturn, 1) := by decide +kernel
set_option maxRecDepth 20000 in
theorem ggX6_isFirst_X6_within : GoodIn wsX6_isFirst wsX6_within := goodIn_r _ [4] (by decide +kernel) (by decide +kernel)
set_option maxRecDepth 20000 in
theorem gX6_isFirst_X6_within : GoodIn wsX6_isFirst (va_wsS RX6 52 yX6_within wsX6_within) := goodIn_app (goodIn_of _ (by decide +kernel)) ggX6_isFirst_X6_within
theorem dX6_isFirst_0 : decode cX6_isFirst 0 = .ok (.iload_n 0, 1) := by decide +kernel
theorem dX6_isFirst_1 : decode cX6_isFirst 1 = .ok (.iconst 0, 1) := by decide +kernel
theorem dX6_isFirst_2 : decode cX6_isFirst 2 = .ok (.iconst 2, 1) := by decide +kernel
theorem dX6_isFirst_3 : decode cX6_isFirst 3 = .ok (.invokestatic 52, 3) := by decide +kernel
theorem dX6_isFirst_6 : decode cX6_isFirst 6 = .ok (.ireturn, 1) := by decide +kernel
set_option maxRecDepth 20000 in
theorem ggX6_isPart_X6_within : GoodIn wsX6_isPart wsX6_within := goodIn_r _ [4] (by decide +kernel) (by decide +kernel)
set_option maxRecDepth 20000 in
theorem gX6_isPart_X6_within : GoodIn wsX6_isPart (va_wsS RX6 52 yX6_within wsX6_within) := goodIn_app (goodIn_of _ (by decide +kernel)) ggX6_isPart_X6_within
theorem dX6_isPart_0 : decode cX6_isPart 0 = .ok (.iload_n 0, 1) := by decide +kernel
theorem dX6_isPart_1 : decode cX6_isPart 1 = .ok (.iconst 0, 1) := by decide +kernel
theorem dX6_isPart_2 : decode cX6_isPart 2 = .ok (.iconst 1, 1) := by decide +kernel
theorem dX6_isPart_3 : decode cX6_isPart 3 = .ok (.invokestatic 52, 3) := by decide +kernel
theorem dX6_isPart_6 : decode cX6_isPart 6 = .ok (.ireturn, 1) := by decide +kernel
theorem dX6_exchange_0 : decode cX6_exchange 0 = .ok (.aload_n 0, 1) := by decide +kernel
theorem dX6_exchange_1 : decode cX6_exchange 1 = .ok (.iload_n 1, 1) := by decide +kernel
theorem dX6_exchange_2 : decode cX6_exchange 2 = .ok (.iaload, 1) := by decide +kernel
theorem dX6_exchange_3 : decode cX6_exchange 3 = .ok (.istore_n 3, 1) := by decide +kernel
theorem dX6_exchange_4 : decode cX6_exchange 4 = .ok (.aload_n 0, 1) := by decide +kernel
theorem dX6_exchange_5 : decode cX6_exchange 5 = .ok (.iload_n 1, 1) := by decide +kernel
theorem dX6_exchange_6 : decode cX6_exchange 6 = .ok (.iload_n 2, 1) := by decide +kernel
theorem dX6_exchange_7 : decode cX6_exchange 7 = .ok (.iastore, 1) := by decide +kernel
theorem dX6_exchange_8 : decode cX6_exchange 8 = .ok (.iload_n 3, 1) := by decide +kernel
theorem dX6_exchange_9 : decode cX6_exchange 9 = .ok (.ireturn, 1) := by decide +kernel
theorem dX6_earlier_0 : decode cX6_earlier 0 = .ok (.iload_n 0, 1) := by decide +kernel
theorem dX6_earlier_1 : decode cX6_earlier 1 = .ok (.iload_n 1, 1) := by decide +kernel
theorem dX6_earlier_2 : decode cX6_earlier 2 = .ok (.if_icmp .ge 5, 3) := by decide +kernel
theorem dX6_earlier_5 : decode cX6_earlier 5 = .ok (.iconst 0, 1) := by decide +kernel
theorem dX6_earlier_6 : decode cX6_earlier 6 = .ok (.ireturn, 1) := by decide +kernel
theorem dX6_earlier_7 : decode cX6_earlier 7 = .ok (.iload_n 0, 1) := by decide +kernel
theorem dX6_earlier_8 : decode cX6_earlier 8 = .ok (.iload_n 1, 1) := by decide +kernel
theorem dX6_earlier_9 : decode cX6_earlier 9 = .ok (.if_icmp .le 7, 3) := by decide +kernel
theorem dX6_earlier_12 : decode cX6_earlier 12 = .ok (.iconst 1, 1) := by decide +kernel
theorem dX6_earlier_13 : decode cX6_earlier 13 = .ok (.goto 4, 3) := by decide +kernel
theorem dX6_earlier_16 : decode cX6_earlier 16 = .ok (.iconst 2, 1) := by decide +kernel
theorem dX6_earlier_17 : decode cX6_earlier 17 = .ok (.ireturn, 1) := by decide +kernel
theorem dX6_nextDraw_0 : decode cX6_nextDraw 0 = .ok (.iload_n 0, 1) := by decide +kernel
theorem dX6_nextDraw_1 : decode cX6_nextDraw 1 = .ok (.bipush 75, 2) := by decide +kernel
theorem dX6_nextDraw_3 : decode cX6_nextDraw 3 = .ok (.imul, 1) := by decide +kernel
theorem dX6_nextDraw_4 : decode cX6_nextDraw 4 = .ok (.bipush 74, 2) := by decide +kernel
theorem dX6_nextDraw_6 : decode cX6_nextDraw 6 = .ok (.iadd, 1) := by decide +kernel
theorem dX6_nextDraw_7 : decode cX6_nextDraw 7 = .ok (.ldc 222, 2) := by decide +kernel
theorem dX6_nextDraw_9 : decode cX6_nextDraw 9 = .ok (.irem, 1) := by decide +kernel
theorem dX6_nextDraw_10 : decode cX6_nextDraw 10 = .ok (.ireturn, 1) := by decide +kernel
theorem dX6_waysOfAtLeast_0 : decode cX6_waysOfAtLeast 0 = .ok (.lconst 1, 1) := by decide +kernel
theorem dX6_waysOfAtLeast_1 : decode cX6_waysOfAtLeast 1 = .ok (.lstore_n 2, 1) := by decide +kernel
theorem dX6_waysOfAtLeast_2 : decode cX6_waysOfAtLeast 2 = .ok (.lconst 0, 1) := by decide +kernel
theorem dX6_waysOfAtLeast_3 : decode cX6_waysOfAtLeast 3 = .ok (.lstore 4, 2) := by decide +kernel
theorem dX6_waysOfAtLeast_5 : decode cX6_waysOfAtLeast 5 = .ok (.iconst 0, 1) := by decide +kernel
theorem dX6_waysOfAtLeast_6 : decode cX6_waysOfAtLeast 6 = .ok (.istore 6, 2) := by decide +kernel
theorem dX6_waysOfAtLeast_8 : decode cX6_waysOfAtLeast 8 = .ok (.iload 6, 2) := by decide +kernel
theorem dX6_waysOfAtLeast_10 : decode cX6_waysOfAtLeast 10 = .ok (.iload_n 1, 1) := by decide +kernel
theorem dX6_waysOfAtLeast_11 : decode cX6_waysOfAtLeast 11 = .ok (.if_icmp .gt 35, 3) := by decide +kernel
theorem dX6_waysOfAtLeast_14 : decode cX6_waysOfAtLeast 14 = .ok (.iload 6, 2) := by decide +kernel
theorem dX6_waysOfAtLeast_16 : decode cX6_waysOfAtLeast 16 = .ok (.iload_n 0, 1) := by decide +kernel
theorem dX6_waysOfAtLeast_17 : decode cX6_waysOfAtLeast 17 = .ok (.if_icmp .lt 9, 3) := by decide +kernel
theorem dX6_waysOfAtLeast_20 : decode cX6_waysOfAtLeast 20 = .ok (.lload 4, 2) := by decide +kernel
theorem dX6_waysOfAtLeast_22 : decode cX6_waysOfAtLeast 22 = .ok (.lload_n 2, 1) := by decide +kernel
theorem dX6_waysOfAtLeast_23 : decode cX6_waysOfAtLeast 23 = .ok (.ladd, 1) := by decide +kernel
theorem dX6_waysOfAtLeast_24 : decode cX6_waysOfAtLeast 24 = .ok (.lstore 4, 2) := by decide +kernel
theorem dX6_waysOfAtLeast_26 : decode cX6_waysOfAtLeast 26 = .ok (.lload_n 2, 1) := by decide +kernel
theorem dX6_waysOfAtLeast_27 : decode cX6_waysOfAtLeast 27 = .ok (.iload_n 1, 1) := by decide +kernel
theorem dX6_waysOfAtLeast_28 : decode cX6_waysOfAtLeast 28 = .ok (.iload 6, 2) := by decide +kernel
theorem dX6_waysOfAtLeast_30 : decode cX6_waysOfAtLeast 30 = .ok (.isub, 1) := by decide +kernel
theorem dX6_waysOfAtLeast_31 : decode cX6_waysOfAtLeast 31 = .ok (.i2l, 1) := by decide +kernel
theorem dX6_waysOfAtLeast_32 : decode cX6_waysOfAtLeast 32 = .ok (.lmul, 1) := by decide +kernel
theorem dX6_waysOfAtLeast_33 : decode cX6_waysOfAtLeast 33 = .ok (.iload 6, 2) := by decide +kernel
theorem dX6_waysOfAtLeast_35 : decode cX6_waysOfAtLeast 35 = .ok (.iconst 1, 1) := by decide +kernel
theorem dX6_waysOfAtLeast_36 : decode cX6_waysOfAtLeast 36 = .ok (.iadd, 1) := by decide +kernel
theorem dX6_waysOfAtLeast_37 : decode cX6_waysOfAtLeast 37 = .ok (.i2l, 1) := by decide +kernel
theorem dX6_waysOfAtLeast_38 : decode cX6_waysOfAtLeast 38 = .ok (.ldiv, 1) := by decide +kernel
theorem dX6_waysOfAtLeast_39 : decode cX6_waysOfAtLeast 39 = .ok (.lstore_n 2, 1) := by decide +kernel
theorem dX6_waysOfAtLeast_40 : decode cX6_waysOfAtLeast 40 = .ok (.iinc 6 1, 3) := by decide +kernel
theorem dX6_waysOfAtLeast_43 : decode cX6_waysOfAtLeast 43 = .ok (.goto (-35), 3) := by decide +kernel
theorem dX6_waysOfAtLeast_46 : decode cX6_waysOfAtLeast 46 = .ok (.lload 4, 2) := by decide +kernel
theorem dX6_waysOfAtLeast_48 : decode cX6_waysOfAtLeast 48 = .ok (.lreturn, 1) := by decide +kernel
set_option maxRecDepth 20000 in
theorem ggX6_partOf_X6_commonDivisor : GoodIn wsX6_partOf wsX6_commonDivisor := goodIn_r _ [4] (by decide +kernel) (by decide +kernel)
set_option maxRecDepth 20000 in
theorem gX6_partOf_X6_commonDivisor : GoodIn wsX6_partOf (va_wsS RX6 223 yX6_commonDivisor wsX6_commonDivisor) := goodIn_app (goodIn_of _ (by decide +kernel)) ggX6_partOf_X6_commonDivisor
theorem dX6_partOf_0 : decode cX6_partOf 0 = .ok (.lload_n 0, 1) := by decide +kernel
theorem dX6_partOf_1 : decode cX6_partOf 1 = .ok (.lload_n 2, 1) := by decide +kernel
theorem dX6_partOf_2 : decode cX6_partOf 2 = .ok (.invokestatic 223, 3) := by decide +kernel
theorem dX6_partOf_5 : decode cX6_partOf 5 = .ok (.lstore 5, 2) := by decide +kernel
theorem dX6_partOf_7 : decode cX6_partOf 7 = .ok (.lload 5, 2) := by decide +kernel
theorem dX6_partOf_9 : decode cX6_partOf 9 = .ok (.lconst 1, 1) := by decide +kernel
theorem dX6_partOf_10 : decode cX6_partOf 10 = .ok (.lcmp, 1) := by decide +kernel
theorem dX6_partOf_11 : decode cX6_partOf 11 = .ok (.ifCond .ge 5, 3) := by decide +kernel
theorem dX6_partOf_14 : decode cX6_partOf 14 = .ok (.lconst 0, 1) := by decide +kernel
theorem dX6_partOf_15 : decode cX6_partOf 15 = .ok (.lreturn, 1) := by decide +kernel
theorem dX6_partOf_16 : decode cX6_partOf 16 = .ok (.iload 4, 2) := by decide +kernel
theorem dX6_partOf_18 : decode cX6_partOf 18 = .ok (.ifCond .ne 7, 3) := by decide +kernel
theorem dX6_partOf_21 : decode cX6_partOf 21 = .ok (.lload_n 0, 1) := by decide +kernel
theorem dX6_partOf_22 : decode cX6_partOf 22 = .ok (.goto 4, 3) := by decide +kernel
theorem dX6_partOf_25 : decode cX6_partOf 25 = .ok (.lload_n 2, 1) := by decide +kernel
theorem dX6_partOf_26 : decode cX6_partOf 26 = .ok (.lload 5, 2) := by decide +kernel
theorem dX6_partOf_28 : decode cX6_partOf 28 = .ok (.ldiv, 1) := by decide +kernel
theorem dX6_partOf_29 : decode cX6_partOf 29 = .ok (.lreturn, 1) := by decide +kernel
theorem dX6_commonDivisor_0 : decode cX6_commonDivisor 0 = .ok (.lload_n 0, 1) := by decide +kernel
theorem dX6_commonDivisor_1 : decode cX6_commonDivisor 1 = .ok (.lstore 4, 2) := by decide +kernel
theorem dX6_commonDivisor_3 : decode cX6_commonDivisor 3 = .ok (.lload_n 2, 1) := by decide +kernel
theorem dX6_commonDivisor_4 : decode cX6_commonDivisor 4 = .ok (.lstore 6, 2) := by decide +kernel
theorem dX6_commonDivisor_6 : decode cX6_commonDivisor 6 = .ok (.iconst 0, 1) := by decide +kernel
theorem dX6_commonDivisor_7 : decode cX6_commonDivisor 7 = .ok (.istore 8, 2) := by decide +kernel
theorem dX6_commonDivisor_9 : decode cX6_commonDivisor 9 = .ok (.iload 8, 2) := by decide +kernel
theorem dX6_commonDivisor_11 : decode cX6_commonDivisor 11 = .ok (.sipush 200, 3) := by decide +kernel
theorem dX6_commonDivisor_14 : decode cX6_commonDivisor 14 = .ok (.if_icmp .ge 31, 3) := by decide +kernel
theorem dX6_commonDivisor_17 : decode cX6_commonDivisor 17 = .ok (.lload 6, 2) := by decide +kernel
theorem dX6_commonDivisor_19 : decode cX6_commonDivisor 19 = .ok (.lconst 0, 1) := by decide +kernel
theorem dX6_commonDivisor_20 : decode cX6_commonDivisor 20 = .ok (.lcmp, 1) := by decide +kernel
theorem dX6_commonDivisor_21 : decode cX6_commonDivisor 21 = .ok (.ifCond .eq 24, 3) := by decide +kernel
theorem dX6_commonDivisor_24 : decode cX6_commonDivisor 24 = .ok (.lload 4, 2) := by decide +kernel
theorem dX6_commonDivisor_26 : decode cX6_commonDivisor 26 = .ok (.lload 6, 2) := by decide +kernel
theorem dX6_commonDivisor_28 : decode cX6_commonDivisor 28 = .ok (.lrem, 1) := by decide +kernel
theorem dX6_commonDivisor_29 : decode cX6_commonDivisor 29 = .ok (.lstore 9, 2) := by decide +kernel
theorem dX6_commonDivisor_31 : decode cX6_commonDivisor 31 = .ok (.lload 6, 2) := by decide +kernel
theorem dX6_commonDivisor_33 : decode cX6_commonDivisor 33 = .ok (.lstore 4, 2) := by decide +kernel
theorem dX6_commonDivisor_35 : decode cX6_commonDivisor 35 = .ok (.lload 9, 2) := by decide +kernel
theorem dX6_commonDivisor_37 : decode cX6_commonDivisor 37 = .ok (.lstore 6, 2) := by decide +kernel
theorem dX6_commonDivisor_39 : decode cX6_commonDivisor 39 = .ok (.iinc 8 1, 3) := by decide +kernel
theorem dX6_commonDivisor_42 : decode cX6_commonDivisor 42 = .ok (.goto (-33), 3) := by decide +kernel
theorem dX6_commonDivisor_45 : decode cX6_commonDivisor 45 = .ok (.lload 4, 2) := by decide +kernel
theorem dX6_commonDivisor_47 : decode cX6_commonDivisor 47 = .ok (.lreturn, 1) := by decide +kernel
theorem dX6_causesAtWork_0 : decode cX6_causesAtWork 0 = .ok (.aload_n 0, 1) := by decide +kernel
theorem dX6_causesAtWork_1 : decode cX6_causesAtWork 1 = .ok (.getfield 10, 3) := by decide +kernel
theorem dX6_causesAtWork_4 : decode cX6_causesAtWork 4 = .ok (.getfield 56, 3) := by decide +kernel
theorem dX6_causesAtWork_7 : decode cX6_causesAtWork 7 = .ok (.getfield 89, 3) := by decide +kernel
theorem dX6_causesAtWork_10 : decode cX6_causesAtWork 10 = .ok (.bipush 10, 2) := by decide +kernel
theorem dX6_causesAtWork_12 : decode cX6_causesAtWork 12 = .ok (.iaload, 1) := by decide +kernel
theorem dX6_causesAtWork_13 : decode cX6_causesAtWork 13 = .ok (.ireturn, 1) := by decide +kernel
set_option maxRecDepth 20000 in
theorem ggX6_timeOf_X3_fill : GoodIn wsX6_timeOf wsX3_fill := goodIn_r _ [9, 10, 11, 12, 13, 14, 15, 16, 17, 18, 19, 20, 21, 22, 23, 24, 25, 26, 27, 28, 29, 30, 8, 31, 32, 33, 34, 35, 94, 95, 96, 97, 98, 99, 100, 101, 102, 103, 104, 105, 106, 107, 108, 109, 110, 111, 112, 113, 114, 115] (by decide +kernel) (by decide +kernel)
set_option maxRecDepth 20000 in
theorem gX6_timeOf_X3_fill : GoodIn wsX6_timeOf (wsV RX6 108 RX3 yX3_fill wsX3_fill) := goodIn_app (goodIn_of _ (by decide +kernel)) ggX6_timeOf_X3_fill
set_option maxRecDepth 20000 in
theorem ggX6_timeOf_X3_timeBy : GoodIn wsX6_timeOf wsX3_timeBy := goodIn_r _ [39, 27, 40, 41, 42, 8, 43, 25, 26, 44, 45, 46, 47, 24, 11, 21, 15, 48, 49, 50, 51, 22, 16, 52, 32, 53, 54, 55, 56, 13, 12, 14, 57, 58, 59, 60, 61, 19, 62, 63, 64, 65, 66, 67, 68, 69, 70, 71, 72, 73, 74, 75, 76, 23, 18, 77, 78, 79, 80, 81, 82, 83, 84, 17, 98, 99, 100, 101, 102, 103, 104, 105, 106, 107, 108, 109, 110, 111, 112, 113, 114, 115] (by decide +kernel) (by decide +kernel)
set_option maxRecDepth 20000 in
theorem gX6_timeOf_X3_timeBy : GoodIn wsX6_timeOf (wsV RX6 123 RX3 yX3_timeBy wsX3_timeBy) := goodIn_app (goodIn_of _ (by decide +kernel)) ggX6_timeOf_X3_timeBy
theorem dX6_timeOf_0 : decode cX6_timeOf 0 = .ok (.aload_n 0, 1) := by decide +kernel
theorem dX6_timeOf_1 : decode cX6_timeOf 1 = .ok (.getfield 27, 3) := by decide +kernel
theorem dX6_timeOf_4 : decode cX6_timeOf 4 = .ok (.aload_n 0, 1) := by decide +kernel
theorem dX6_timeOf_5 : decode cX6_timeOf 5 = .ok (.getfield 10, 3) := by decide +kernel
theorem dX6_timeOf_8 : decode cX6_timeOf 8 = .ok (.getfield 56, 3) := by decide +kernel
theorem dX6_timeOf_11 : decode cX6_timeOf 11 = .ok (.iload_n 1, 1) := by decide +kernel
theorem dX6_timeOf_12 : decode cX6_timeOf 12 = .ok (.aload_n 0, 1) := by decide +kernel
theorem dX6_timeOf_13 : decode cX6_timeOf 13 = .ok (.getfield 10, 3) := by decide +kernel
theorem dX6_timeOf_16 : decode cX6_timeOf 16 = .ok (.getfield 56, 3) := by decide +kernel
theorem dX6_timeOf_19 : decode cX6_timeOf 19 = .ok (.getfield 60, 3) := by decide +kernel
theorem dX6_timeOf_22 : decode cX6_timeOf 22 = .ok (.iload_n 1, 1) := by decide +kernel
theorem dX6_timeOf_23 : decode cX6_timeOf 23 = .ok (.iaload, 1) := by decide +kernel
theorem dX6_timeOf_24 : decode cX6_timeOf 24 = .ok (.iload_n 2, 1) := by decide +kernel
theorem dX6_timeOf_25 : decode cX6_timeOf 25 = .ok (.iload 4, 2) := by decide +kernel
theorem dX6_timeOf_27 : decode cX6_timeOf 27 = .ok (.invokevirtual 108, 3) := by decide +kernel
theorem dX6_timeOf_30 : decode cX6_timeOf 30 = .ok (.aload_n 0, 1) := by decide +kernel
theorem dX6_timeOf_31 : decode cX6_timeOf 31 = .ok (.getfield 27, 3) := by decide +kernel
theorem dX6_timeOf_34 : decode cX6_timeOf 34 = .ok (.iload_n 3, 1) := by decide +kernel
theorem dX6_timeOf_35 : decode cX6_timeOf 35 = .ok (.sipush 600, 3) := by decide +kernel
theorem dX6_timeOf_38 : decode cX6_timeOf 38 = .ok (.invokevirtual 123, 3) := by decide +kernel
theorem dX6_timeOf_41 : decode cX6_timeOf 41 = .ok (.ireturn, 1) := by decide +kernel
set_option maxRecDepth 20000 in
theorem ggX6_gainBy_X6_timeOf : GoodIn wsX6_gainBy wsX6_timeOf := goodIn_r _ [5, 6, 7, 8, 9, 10, 11, 12, 13, 14, 15, 16, 17, 18, 19, 20, 21, 22, 23, 24, 25, 26, 27, 28, 29, 30, 31, 32, 33, 34, 35, 36, 37, 38, 4, 39, 40, 41, 42, 43, 44, 45, 46, 47, 48, 49, 50, 51, 52, 53, 54, 55, 56, 57, 58, 59, 60, 61, 62, 63, 64, 65, 66, 67, 68, 69, 70, 71, 72, 73, 74, 75, 76, 77, 78, 79, 80, 81, 82, 83, 84, 85, 86, 87, 88, 89, 90, 91, 92, 93, 94, 95, 96, 97, 98, 99, 100, 101, 102, 103, 104, 105, 106, 107, 108, 109, 110, 111, 112, 113, 114, 115, 116, 117, 118, 119] (by decide +kernel) (by decide +kernel)
set_option maxRecDepth 20000 in
theorem gX6_gainBy_X6_timeOf : GoodIn wsX6_gainBy (wsV RX6 102 RX6 yX6_timeOf wsX6_timeOf) := goodIn_app (goodIn_of _ (by decide +kernel)) ggX6_gainBy_X6_timeOf
theorem dX6_gainBy_0 : decode cX6_gainBy 0 = .ok (.aload_n 0, 1) := by decide +kernel
theorem dX6_gainBy_1 : decode cX6_gainBy 1 = .ok (.iconst 1, 1) := by decide +kernel
theorem dX6_gainBy_2 : decode cX6_gainBy 2 = .ok (.iload_n 2, 1) := by decide +kernel
theorem dX6_gainBy_3 : decode cX6_gainBy 3 = .ok (.iload_n 1, 1) := by decide +kernel
theorem dX6_gainBy_4 : decode cX6_gainBy 4 = .ok (.iload_n 3, 1) := by decide +kernel
theorem dX6_gainBy_5 : decode cX6_gainBy 5 = .ok (.invokevirtual 102, 3) := by decide +kernel
theorem dX6_gainBy_8 : decode cX6_gainBy 8 = .ok (.aload_n 0, 1) := by decide +kernel
theorem dX6_gainBy_9 : decode cX6_gainBy 9 = .ok (.iconst 0, 1) := by decide +kernel
theorem dX6_gainBy_10 : decode cX6_gainBy 10 = .ok (.iload_n 2, 1) := by decide +kernel
theorem dX6_gainBy_11 : decode cX6_gainBy 11 = .ok (.iload_n 1, 1) := by decide +kernel
theorem dX6_gainBy_12 : decode cX6_gainBy 12 = .ok (.iload_n 3, 1) := by decide +kernel
theorem dX6_gainBy_13 : decode cX6_gainBy 13 = .ok (.invokevirtual 102, 3) := by decide +kernel
theorem dX6_gainBy_16 : decode cX6_gainBy 16 = .ok (.isub, 1) := by decide +kernel
theorem dX6_gainBy_17 : decode cX6_gainBy 17 = .ok (.ireturn, 1) := by decide +kernel
set_option maxRecDepth 20000 in
theorem ggX6_readNeedles_X1_readRow : GoodIn wsX6_readNeedles wsX1_readRow := goodIn_r _ [10, 11, 12, 13, 118, 119, 120] (by decide +kernel) (by decide +kernel)
set_option maxRecDepth 20000 in
theorem gX6_readNeedles_X1_readRow : GoodIn wsX6_readNeedles (wsV RX6 227 RX1 yX1_readRow wsX1_readRow) := goodIn_app (goodIn_of _ (by decide +kernel)) ggX6_readNeedles_X1_readRow
set_option maxRecDepth 20000 in
theorem ggX6_readNeedles_X6_causesAtWork : GoodIn wsX6_readNeedles wsX6_causesAtWork := goodIn_r _ [18, 1, 2, 19, 105, 106, 107, 108, 109, 110, 111, 112, 113, 114, 115, 116, 117] (by decide +kernel) (by decide +kernel)
set_option maxRecDepth 20000 in
theorem gX6_readNeedles_X6_causesAtWork : GoodIn wsX6_readNeedles (wsV RX6 98 RX6 yX6_causesAtWork wsX6_causesAtWork) := goodIn_app (goodIn_of _ (by decide +kernel)) ggX6_readNeedles_X6_causesAtWork
set_option maxRecDepth 20000 in
theorem ggX6_readNeedles_X6_timeOf : GoodIn wsX6_readNeedles wsX6_timeOf := goodIn_r _ [23, 24, 1, 2, 25, 26, 27, 28, 29, 30, 31, 32, 33, 34, 35, 36, 37, 38, 39, 40, 41, 42, 43, 44, 45, 46, 47, 48, 49, 50, 51, 52, 53, 54, 17, 55, 56, 57, 58, 59, 60, 61, 62, 63, 64, 65, 66, 67, 68, 69, 70, 71, 72, 73, 74, 75, 76, 77, 78, 79, 80, 81, 82, 83, 84, 85, 86, 87, 88, 89, 90, 91, 92, 93, 94, 95, 96, 97, 98, 99, 100, 101, 102, 103, 104, 105, 106, 107, 108, 109, 110, 111, 112, 113, 114, 115, 116, 117, 121, 122, 123, 124, 125, 126, 127, 128, 129, 130, 131, 132, 133, 134, 135, 136, 137, 138] (by decide +kernel) (by decide +kernel)
set_option maxRecDepth 20000 in
theorem gX6_readNeedles_X6_timeOf : GoodIn wsX6_readNeedles (wsV RX6 102 RX6 yX6_timeOf wsX6_timeOf) := goodIn_app (goodIn_of _ (by decide +kernel)) ggX6_readNeedles_X6_timeOf
theorem dX6_readNeedles_0 : decode cX6_readNeedles 0 = .ok (.aload_n 1, 1) := by decide +kernel
theorem dX6_readNeedles_1 : decode cX6_readNeedles 1 = .ok (.aload_n 0, 1) := by decide +kernel
theorem dX6_readNeedles_2 : decode cX6_readNeedles 2 = .ok (.getfield 10, 3) := by decide +kernel
theorem dX6_readNeedles_5 : decode cX6_readNeedles 5 = .ok (.getfield 56, 3) := by decide +kernel
theorem dX6_readNeedles_8 : decode cX6_readNeedles 8 = .ok (.getfield 79, 3) := by decide +kernel
theorem dX6_readNeedles_11 : decode cX6_readNeedles 11 = .ok (.iload_n 2, 1) := by decide +kernel
theorem dX6_readNeedles_12 : decode cX6_readNeedles 12 = .ok (.laload, 1) := by decide +kernel
theorem dX6_readNeedles_13 : decode cX6_readNeedles 13 = .ok (.invokevirtual 227, 3) := by decide +kernel
theorem dX6_readNeedles_16 : decode cX6_readNeedles 16 = .ok (.iconst 0, 1) := by decide +kernel
theorem dX6_readNeedles_17 : decode cX6_readNeedles 17 = .ok (.istore 4, 2) := by decide +kernel
theorem dX6_readNeedles_19 : decode cX6_readNeedles 19 = .ok (.iload 4, 2) := by decide +kernel
theorem dX6_readNeedles_21 : decode cX6_readNeedles 21 = .ok (.bipush 10, 2) := by decide +kernel
theorem dX6_readNeedles_23 : decode cX6_readNeedles 23 = .ok (.if_icmp .ge 38, 3) := by decide +kernel
theorem dX6_readNeedles_26 : decode cX6_readNeedles 26 = .ok (.aload_n 1, 1) := by decide +kernel
theorem dX6_readNeedles_27 : decode cX6_readNeedles 27 = .ok (.getfield 145, 3) := by decide +kernel
theorem dX6_readNeedles_30 : decode cX6_readNeedles 30 = .ok (.iload 4, 2) := by decide +kernel
theorem dX6_readNeedles_32 : decode cX6_readNeedles 32 = .ok (.iaload, 1) := by decide +kernel
theorem dX6_readNeedles_33 : decode cX6_readNeedles 33 = .ok (.ifCond .le 22, 3) := by decide +kernel
theorem dX6_readNeedles_36 : decode cX6_readNeedles 36 = .ok (.aload_n 1, 1) := by decide +kernel
theorem dX6_readNeedles_37 : decode cX6_readNeedles 37 = .ok (.getfield 142, 3) := by decide +kernel
theorem dX6_readNeedles_40 : decode cX6_readNeedles 40 = .ok (.iload 4, 2) := by decide +kernel
theorem dX6_readNeedles_42 : decode cX6_readNeedles 42 = .ok (.aload_n 0, 1) := by decide +kernel
theorem dX6_readNeedles_43 : decode cX6_readNeedles 43 = .ok (.iload_n 2, 1) := by decide +kernel
theorem dX6_readNeedles_44 : decode cX6_readNeedles 44 = .ok (.iload 4, 2) := by decide +kernel
theorem dX6_readNeedles_46 : decode cX6_readNeedles 46 = .ok (.iload_n 3, 1) := by decide +kernel
theorem dX6_readNeedles_47 : decode cX6_readNeedles 47 = .ok (.aload_n 0, 1) := by decide +kernel
theorem dX6_readNeedles_48 : decode cX6_readNeedles 48 = .ok (.invokevirtual 98, 3) := by decide +kernel
theorem dX6_readNeedles_51 : decode cX6_readNeedles 51 = .ok (.invokevirtual 102, 3) := by decide +kernel
theorem dX6_readNeedles_54 : decode cX6_readNeedles 54 = .ok (.iastore, 1) := by decide +kernel
theorem dX6_readNeedles_55 : decode cX6_readNeedles 55 = .ok (.iinc 4 1, 3) := by decide +kernel
theorem dX6_readNeedles_58 : decode cX6_readNeedles 58 = .ok (.goto (-39), 3) := by decide +kernel
theorem dX6_readNeedles_61 : decode cX6_readNeedles 61 = .ok (.return_, 1) := by decide +kernel
set_option maxRecDepth 20000 in
theorem ggX7_init_X7_layRow : GoodIn wsX7_init wsX7_layRow := goodIn_r _ [26, 7, 27, 28, 29, 30, 31, 32, 33, 34, 35, 36, 37, 38, 39, 40, 41, 42, 43, 44, 45, 46, 47, 48, 49, 50] (by decide +kernel) (by decide +kernel)
set_option maxRecDepth 20000 in
theorem gX7_init_X7_layRow : GoodIn wsX7_init (wsV RX7 56 RX7 yX7_layRow wsX7_layRow) := goodIn_app (goodIn_of _ (by decide +kernel)) ggX7_init_X7_layRow
theorem dX7_init_0 : decode cX7_init 0 = .ok (.aload_n 0, 1) := by decide +kernel
theorem dX7_init_1 : decode cX7_init 1 = .ok (.invokespecial 1, 3) := by decide +kernel
theorem dX7_init_4 : decode cX7_init 4 = .ok (.aload_n 0, 1) := by decide +kernel
theorem dX7_init_5 : decode cX7_init 5 = .ok (.iconst 2, 1) := by decide +kernel
theorem dX7_init_6 : decode cX7_init 6 = .ok (.newarray .int, 2) := by decide +kernel
theorem dX7_init_8 : decode cX7_init 8 = .ok (.putfield 7, 3) := by decide +kernel
theorem dX7_init_11 : decode cX7_init 11 = .ok (.aload_n 0, 1) := by decide +kernel
theorem dX7_init_12 : decode cX7_init 12 = .ok (.iconst 2, 1) := by decide +kernel
theorem dX7_init_13 : decode cX7_init 13 = .ok (.newarray .int, 2) := by decide +kernel
theorem dX7_init_15 : decode cX7_init 15 = .ok (.putfield 13, 3) := by decide +kernel
theorem dX7_init_18 : decode cX7_init 18 = .ok (.aload_n 0, 1) := by decide +kernel
theorem dX7_init_19 : decode cX7_init 19 = .ok (.bipush 20, 2) := by decide +kernel
theorem dX7_init_21 : decode cX7_init 21 = .ok (.newarray .int, 2) := by decide +kernel
theorem dX7_init_23 : decode cX7_init 23 = .ok (.putfield 16, 3) := by decide +kernel
theorem dX7_init_26 : decode cX7_init 26 = .ok (.aload_n 0, 1) := by decide +kernel
theorem dX7_init_27 : decode cX7_init 27 = .ok (.bipush 11, 2) := by decide +kernel
theorem dX7_init_29 : decode cX7_init 29 = .ok (.newarray .int, 2) := by decide +kernel
theorem dX7_init_31 : decode cX7_init 31 = .ok (.putfield 19, 3) := by decide +kernel
theorem dX7_init_34 : decode cX7_init 34 = .ok (.aload_n 0, 1) := by decide +kernel
theorem dX7_init_35 : decode cX7_init 35 = .ok (.bipush 60, 2) := by decide +kernel
theorem dX7_init_37 : decode cX7_init 37 = .ok (.newarray .int, 2) := by decide +kernel
theorem dX7_init_39 : decode cX7_init 39 = .ok (.putfield 22, 3) := by decide +kernel
theorem dX7_init_42 : decode cX7_init 42 = .ok (.aload_n 0, 1) := by decide +kernel
theorem dX7_init_43 : decode cX7_init 43 = .ok (.bipush 20, 2) := by decide +kernel
theorem dX7_init_45 : decode cX7_init 45 = .ok (.newarray .int, 2) := by decide +kernel
theorem dX7_init_47 : decode cX7_init 47 = .ok (.putfield 25, 3) := by decide +kernel
theorem dX7_init_50 : decode cX7_init 50 = .ok (.aload_n 0, 1) := by decide +kernel
theorem dX7_init_51 : decode cX7_init 51 = .ok (.bipush 20, 2) := by decide +kernel
theorem dX7_init_53 : decode cX7_init 53 = .ok (.newarray .int, 2) := by decide +kernel
theorem dX7_init_55 : decode cX7_init 55 = .ok (.putfield 28, 3) := by decide +kernel
theorem dX7_init_58 : decode cX7_init 58 = .ok (.aload_n 0, 1) := by decide +kernel
theorem dX7_init_59 : decode cX7_init 59 = .ok (.iconst 4, 1) := by decide +kernel
theorem dX7_init_60 : decode cX7_init 60 = .ok (.newarray .long, 2) := by decide +kernel
theorem dX7_init_62 : decode cX7_init 62 = .ok (.putfield 31, 3) := by decide +kernel
theorem dX7_init_65 : decode cX7_init 65 = .ok (.aload_n 0, 1) := by decide +kernel
theorem dX7_init_66 : decode cX7_init 66 = .ok (.iconst 4, 1) := by decide +kernel
theorem dX7_init_67 : decode cX7_init 67 = .ok (.newarray .long, 2) := by decide +kernel
theorem dX7_init_69 : decode cX7_init 69 = .ok (.putfield 35, 3) := by decide +kernel
theorem dX7_init_72 : decode cX7_init 72 = .ok (.aload_n 0, 1) := by decide +kernel
theorem dX7_init_73 : decode cX7_init 73 = .ok (.iconst 4, 1) := by decide +kernel
theorem dX7_init_74 : decode cX7_init 74 = .ok (.newarray .int, 2) := by decide +kernel
theorem dX7_init_76 : decode cX7_init 76 = .ok (.putfield 38, 3) := by decide +kernel
theorem dX7_init_79 : decode cX7_init 79 = .ok (.aload_n 0, 1) := by decide +kernel
theorem dX7_init_80 : decode cX7_init 80 = .ok (.bipush 20, 2) := by decide +kernel
theorem dX7_init_82 : decode cX7_init 82 = .ok (.newarray .int, 2) := by decide +kernel
theorem dX7_init_84 : decode cX7_init 84 = .ok (.putfield 41, 3) := by decide +kernel
theorem dX7_init_87 : decode cX7_init 87 = .ok (.aload_n 0, 1) := by decide +kernel
theorem dX7_init_88 : decode cX7_init 88 = .ok (.bipush 8, 2) := by decide +kernel
theorem dX7_init_90 : decode cX7_init 90 = .ok (.newarray .int, 2) := by decide +kernel
theorem dX7_init_92 : decode cX7_init 92 = .ok (.putfield 44, 3) := by decide +kernel
theorem dX7_init_95 : decode cX7_init 95 = .ok (.aload_n 0, 1) := by decide +kernel
theorem dX7_init_96 : decode cX7_init 96 = .ok (.sipush 160, 3) := by decide +kernel
theorem dX7_init_99 : decode cX7_init 99 = .ok (.newarray .int, 2) := by decide +kernel
theorem dX7_init_101 : decode cX7_init 101 = .ok (.putfield 47, 3) := by decide +kernel
theorem dX7_init_104 : decode cX7_init 104 = .ok (.aload_n 0, 1) := by decide +kernel
theorem dX7_init_105 : decode cX7_init 105 = .ok (.iconst 2, 1) := by decide +kernel
theorem dX7_init_106 : decode cX7_init 106 = .ok (.newarray .boolean, 2) := by decide +kernel
theorem dX7_init_108 : decode cX7_init 108 = .ok (.putfield 50, 3) := by decide +kernel
theorem dX7_init_111 : decode cX7_init 111 = .ok (.aload_n 0, 1) := by decide +kernel
theorem dX7_init_112 : decode cX7_init 112 = .ok (.getfield 7, 3) := by decide +kernel
theorem dX7_init_115 : decode cX7_init 115 = .ok (.iconst 0, 1) := by decide +kernel
theorem dX7_init_116 : decode cX7_init 116 = .ok (.bipush 90, 2) := by decide +kernel
theorem dX7_init_118 : decode cX7_init 118 = .ok (.iastore, 1) := by decide +kernel
theorem dX7_init_119 : decode cX7_init 119 = .ok (.aload_n 0, 1) := by decide +kernel
theorem dX7_init_120 : decode cX7_init 120 = .ok (.getfield 7, 3) := by decide +kernel
theorem dX7_init_123 : decode cX7_init 123 = .ok (.iconst 1, 1) := by decide +kernel
theorem dX7_init_124 : decode cX7_init 124 = .ok (.bipush 20, 2) := by decide +kernel
theorem dX7_init_126 : decode cX7_init 126 = .ok (.iastore, 1) := by decide +kernel
theorem dX7_init_127 : decode cX7_init 127 = .ok (.iconst 0, 1) := by decide +kernel
theorem dX7_init_128 : decode cX7_init 128 = .ok (.istore_n 1, 1) := by decide +kernel
theorem dX7_init_129 : decode cX7_init 129 = .ok (.iload_n 1, 1) := by decide +kernel
theorem dX7_init_130 : decode cX7_init 130 = .ok (.iconst 2, 1) := by decide +kernel
theorem dX7_init_131 : decode cX7_init 131 = .ok (.if_icmp .ge 25, 3) := by decide +kernel
theorem dX7_init_134 : decode cX7_init 134 = .ok (.aload_n 0, 1) := by decide +kernel
theorem dX7_init_135 : decode cX7_init 135 = .ok (.getfield 13, 3) := by decide +kernel
theorem dX7_init_138 : decode cX7_init 138 = .ok (.iload_n 1, 1) := by decide +kernel
theorem dX7_init_139 : decode cX7_init 139 = .ok (.bipush 100, 2) := by decide +kernel
theorem dX7_init_141 : decode cX7_init 141 = .ok (.iastore, 1) := by decide +kernel
theorem dX7_init_142 : decode cX7_init 142 = .ok (.aload_n 0, 1) := by decide +kernel
theorem dX7_init_143 : decode cX7_init 143 = .ok (.iload_n 1, 1) := by decide +kernel
theorem dX7_init_144 : decode cX7_init 144 = .ok (.ldc2_w 54, 3) := by decide +kernel
theorem dX7_init_147 : decode cX7_init 147 = .ok (.invokevirtual 56, 3) := by decide +kernel
theorem dX7_init_150 : decode cX7_init 150 = .ok (.iinc 1 1, 3) := by decide +kernel
theorem dX7_init_153 : decode cX7_init 153 = .ok (.goto (-24), 3) := by decide +kernel
theorem dX7_init_156 : decode cX7_init 156 = .ok (.aload_n 0, 1) := by decide +kernel
theorem dX7_init_157 : decode cX7_init 157 = .ok (.getfield 19, 3) := by decide +kernel
theorem dX7_init_160 : decode cX7_init 160 = .ok (.iconst 0, 1) := by decide +kernel
theorem dX7_init_161 : decode cX7_init 161 = .ok (.bipush 10, 2) := by decide +kernel
theorem dX7_init_163 : decode cX7_init 163 = .ok (.iastore, 1) := by decide +kernel
theorem dX7_init_164 : decode cX7_init 164 = .ok (.aload_n 0, 1) := by decide +kernel
theorem dX7_init_165 : decode cX7_init 165 = .ok (.getfield 19, 3) := by decide +kernel
theorem dX7_init_168 : decode cX7_init 168 = .ok (.iconst 1, 1) := by decide +kernel
theorem dX7_init_169 : decode cX7_init 169 = .ok (.iconst 4, 1) := by decide +kernel
theorem dX7_init_170 : decode cX7_init 170 = .ok (.iastore, 1) := by decide +kernel
theorem dX7_init_171 : decode cX7_init 171 = .ok (.aload_n 0, 1) := by decide +kernel
theorem dX7_init_172 : decode cX7_init 172 = .ok (.getfield 19, 3) := by decide +kernel
theorem dX7_init_175 : decode cX7_init 175 = .ok (.iconst 2, 1) := by decide +kernel
theorem dX7_init_176 : decode cX7_init 176 = .ok (.bipush 8, 2) := by decide +kernel
theorem dX7_init_178 : decode cX7_init 178 = .ok (.iastore, 1) := by decide +kernel
theorem dX7_init_179 : decode cX7_init 179 = .ok (.aload_n 0, 1) := by decide +kernel
theorem dX7_init_180 : decode cX7_init 180 = .ok (.getfield 19, 3) := by decide +kernel
theorem dX7_init_183 : decode cX7_init 183 = .ok (.iconst 3, 1) := by decide +kernel
theorem dX7_init_184 : decode cX7_init 184 = .ok (.bipush 12, 2) := by decide +kernel
theorem dX7_init_186 : decode cX7_init 186 = .ok (.iastore, 1) := by decide +kernel
theorem dX7_init_187 : decode cX7_init 187 = .ok (.aload_n 0, 1) := by decide +kernel
theorem dX7_init_188 : decode cX7_init 188 = .ok (.getfield 19, 3) := by decide +kernel
theorem dX7_init_191 : decode cX7_init 191 = .ok (.iconst 4, 1) := by decide +kernel
theorem dX7_init_192 : decode cX7_init 192 = .ok (.iconst 2, 1) := by decide +kernel
theorem dX7_init_193 : decode cX7_init 193 = .ok (.iastore, 1) := by decide +kernel
theorem dX7_init_194 : decode cX7_init 194 = .ok (.aload_n 0, 1) := by decide +kernel
theorem dX7_init_195 : decode cX7_init 195 = .ok (.getfield 19, 3) := by decide +kernel
theorem dX7_init_198 : decode cX7_init 198 = .ok (.iconst 5, 1) := by decide +kernel
theorem dX7_init_199 : decode cX7_init 199 = .ok (.bipush 10, 2) := by decide +kernel
theorem dX7_init_201 : decode cX7_init 201 = .ok (.iastore, 1) := by decide +kernel
theorem dX7_init_202 : decode cX7_init 202 = .ok (.aload_n 0, 1) := by decide +kernel
theorem dX7_init_203 : decode cX7_init 203 = .ok (.getfield 19, 3) := by decide +kernel
theorem dX7_init_206 : decode cX7_init 206 = .ok (.bipush 6, 2) := by decide +kernel
theorem dX7_init_208 : decode cX7_init 208 = .ok (.bipush 8, 2) := by decide +kernel
theorem dX7_init_210 : decode cX7_init 210 = .ok (.iastore, 1) := by decide +kernel
theorem dX7_init_211 : decode cX7_init 211 = .ok (.aload_n 0, 1) := by decide +kernel
theorem dX7_init_212 : decode cX7_init 212 = .ok (.getfield 19, 3) := by decide +kernel
theorem dX7_init_215 : decode cX7_init 215 = .ok (.bipush 7, 2) := by decide +kernel
theorem dX7_init_217 : decode cX7_init 217 = .ok (.bipush 40, 2) := by decide +kernel
theorem dX7_init_219 : decode cX7_init 219 = .ok (.iastore, 1) := by decide +kernel
theorem dX7_init_220 : decode cX7_init 220 = .ok (.aload_n 0, 1) := by decide +kernel
theorem dX7_init_221 : decode cX7_init 221 = .ok (.getfield 19, 3) := by decide +kernel
theorem dX7_init_224 : decode cX7_init 224 = .ok (.bipush 8, 2) := by decide +kernel
theorem dX7_init_226 : decode cX7_init 226 = .ok (.bipush 20, 2) := by decide +kernel
theorem dX7_init_228 : decode cX7_init 228 = .ok (.iastore, 1) := by decide +kernel
theorem dX7_init_229 : decode cX7_init 229 = .ok (.aload_n 0, 1) := by decide +kernel
theorem dX7_init_230 : decode cX7_init 230 = .ok (.getfield 19, 3) := by decide +kernel
theorem dX7_init_233 : decode cX7_init 233 = .ok (.bipush 9, 2) := by decide +kernel
theorem dX7_init_235 : decode cX7_init 235 = .ok (.iconst 1, 1) := by decide +kernel
theorem dX7_init_236 : decode cX7_init 236 = .ok (.iastore, 1) := by decide +kernel
theorem dX7_init_237 : decode cX7_init 237 = .ok (.aload_n 0, 1) := by decide +kernel
theorem dX7_init_238 : decode cX7_init 238 = .ok (.getfield 19, 3) := by decide +kernel
theorem dX7_init_241 : decode cX7_init 241 = .ok (.bipush 10, 2) := by decide +kernel
theorem dX7_init_243 : decode cX7_init 243 = .ok (.bipush 7, 2) := by decide +kernel
theorem dX7_init_245 : decode cX7_init 245 = .ok (.iastore, 1) := by decide +kernel
theorem dX7_init_246 : decode cX7_init 246 = .ok (.return_, 1) := by decide +kernel
theorem dX7_in_0 : decode cX7_in 0 = .ok (.iload_n 0, 1) := by decide +kernel
theorem dX7_in_1 : decode cX7_in 1 = .ok (.iload_n 1, 1) := by decide +kernel
theorem dX7_in_2 : decode cX7_in 2 = .ok (.if_icmp .lt 12, 3) := by decide +kernel
theorem dX7_in_5 : decode cX7_in 5 = .ok (.iload_n 0, 1) := by decide +kernel
theorem dX7_in_6 : decode cX7_in 6 = .ok (.iload_n 2, 1) := by decide +kernel
theorem dX7_in_7 : decode cX7_in 7 = .ok (.if_icmp .gt 7, 3) := by decide +kernel
theorem dX7_in_10 : decode cX7_in 10 = .ok (.iconst 1, 1) := by decide +kernel
theorem dX7_in_11 : decode cX7_in 11 = .ok (.goto 4, 3) := by decide +kernel
theorem dX7_in_14 : decode cX7_in 14 = .ok (.iconst 0, 1) := by decide +kernel
theorem dX7_in_15 : decode cX7_in 15 = .ok (.ireturn, 1) := by decide +kernel
set_option maxRecDepth 20000 in
theorem ggX7_isTwo_X7_in : GoodIn wsX7_isTwo wsX7_in := goodIn_r _ [4] (by decide +kernel) (by decide +kernel)
set_option maxRecDepth 20000 in
theorem gX7_isTwo_X7_in : GoodIn wsX7_isTwo (va_wsS RX7 60 yX7_in wsX7_in) := goodIn_app (goodIn_of _ (by decide +kernel)) ggX7_isTwo_X7_in
theorem dX7_isTwo_0 : decode cX7_isTwo 0 = .ok (.iload_n 0, 1) := by decide +kernel
theorem dX7_isTwo_1 : decode cX7_isTwo 1 = .ok (.iconst 0, 1) := by decide +kernel
theorem dX7_isTwo_2 : decode cX7_isTwo 2 = .ok (.iconst 1, 1) := by decide +kernel
theorem dX7_isTwo_3 : decode cX7_isTwo 3 = .ok (.invokestatic 60, 3) := by decide +kernel
theorem dX7_isTwo_6 : decode cX7_isTwo 6 = .ok (.ireturn, 1) := by decide +kernel
set_option maxRecDepth 20000 in
theorem ggX7_isMeaning_X7_in : GoodIn wsX7_isMeaning wsX7_in := goodIn_r _ [4] (by decide +kernel) (by decide +kernel)
set_option maxRecDepth 20000 in
theorem gX7_isMeaning_X7_in : GoodIn wsX7_isMeaning (va_wsS RX7 60 yX7_in wsX7_in) := goodIn_app (goodIn_of _ (by decide +kernel)) ggX7_isMeaning_X7_in
theorem dX7_isMeaning_0 : decode cX7_isMeaning 0 = .ok (.iload_n 0, 1) := by decide +kernel
theorem dX7_isMeaning_1 : decode cX7_isMeaning 1 = .ok (.iconst 0, 1) := by decide +kernel
theorem dX7_isMeaning_2 : decode cX7_isMeaning 2 = .ok (.iconst 2, 1) := by decide +kernel
theorem dX7_isMeaning_3 : decode cX7_isMeaning 3 = .ok (.invokestatic 60, 3) := by decide +kernel
theorem dX7_isMeaning_6 : decode cX7_isMeaning 6 = .ok (.ireturn, 1) := by decide +kernel
set_option maxRecDepth 20000 in
theorem ggX7_isDegree_X7_in : GoodIn wsX7_isDegree wsX7_in := goodIn_r _ [4] (by decide +kernel) (by decide +kernel)
set_option maxRecDepth 20000 in
theorem gX7_isDegree_X7_in : GoodIn wsX7_isDegree (va_wsS RX7 60 yX7_in wsX7_in) := goodIn_app (goodIn_of _ (by decide +kernel)) ggX7_isDegree_X7_in
theorem dX7_isDegree_0 : decode cX7_isDegree 0 = .ok (.iload_n 0, 1) := by decide +kernel
theorem dX7_isDegree_1 : decode cX7_isDegree 1 = .ok (.iconst 0, 1) := by decide +kernel
theorem dX7_isDegree_2 : decode cX7_isDegree 2 = .ok (.bipush 9, 2) := by decide +kernel
theorem dX7_isDegree_4 : decode cX7_isDegree 4 = .ok (.invokestatic 60, 3) := by decide +kernel
theorem dX7_isDegree_7 : decode cX7_isDegree 7 = .ok (.ireturn, 1) := by decide +kernel
theorem dX7_layRow_0 : decode cX7_layRow 0 = .ok (.lload_n 2, 1) := by decide +kernel
theorem dX7_layRow_1 : decode cX7_layRow 1 = .ok (.lstore 4, 2) := by decide +kernel
theorem dX7_layRow_3 : decode cX7_layRow 3 = .ok (.bipush 9, 2) := by decide +kernel
theorem dX7_layRow_5 : decode cX7_layRow 5 = .ok (.istore 6, 2) := by decide +kernel
theorem dX7_layRow_7 : decode cX7_layRow 7 = .ok (.iload 6, 2) := by decide +kernel
theorem dX7_layRow_9 : decode cX7_layRow 9 = .ok (.ifCond .lt 36, 3) := by decide +kernel
theorem dX7_layRow_12 : decode cX7_layRow 12 = .ok (.aload_n 0, 1) := by decide +kernel
theorem dX7_layRow_13 : decode cX7_layRow 13 = .ok (.getfield 16, 3) := by decide +kernel
theorem dX7_layRow_16 : decode cX7_layRow 16 = .ok (.bipush 10, 2) := by decide +kernel
theorem dX7_layRow_18 : decode cX7_layRow 18 = .ok (.iload_n 1, 1) := by decide +kernel
theorem dX7_layRow_19 : decode cX7_layRow 19 = .ok (.imul, 1) := by decide +kernel
theorem dX7_layRow_20 : decode cX7_layRow 20 = .ok (.iload 6, 2) := by decide +kernel
theorem dX7_layRow_22 : decode cX7_layRow 22 = .ok (.iadd, 1) := by decide +kernel
theorem dX7_layRow_23 : decode cX7_layRow 23 = .ok (.lload 4, 2) := by decide +kernel
theorem dX7_layRow_25 : decode cX7_layRow 25 = .ok (.ldc2_w 64, 3) := by decide +kernel
theorem dX7_layRow_28 : decode cX7_layRow 28 = .ok (.lrem, 1) := by decide +kernel
theorem dX7_layRow_29 : decode cX7_layRow 29 = .ok (.l2i, 1) := by decide +kernel
theorem dX7_layRow_30 : decode cX7_layRow 30 = .ok (.iastore, 1) := by decide +kernel
theorem dX7_layRow_31 : decode cX7_layRow 31 = .ok (.lload 4, 2) := by decide +kernel
theorem dX7_layRow_33 : decode cX7_layRow 33 = .ok (.ldc2_w 64, 3) := by decide +kernel
theorem dX7_layRow_36 : decode cX7_layRow 36 = .ok (.ldiv, 1) := by decide +kernel
theorem dX7_layRow_37 : decode cX7_layRow 37 = .ok (.lstore 4, 2) := by decide +kernel
theorem dX7_layRow_39 : decode cX7_layRow 39 = .ok (.iinc 6 (-1), 3) := by decide +kernel
theorem dX7_layRow_42 : decode cX7_layRow 42 = .ok (.goto (-35), 3) := by decide +kernel
theorem dX7_layRow_45 : decode cX7_layRow 45 = .ok (.return_, 1) := by decide +kernel
theorem dX7_sumOf_0 : decode cX7_sumOf 0 = .ok (.iconst 0, 1) := by decide +kernel
theorem dX7_sumOf_1 : decode cX7_sumOf 1 = .ok (.istore_n 2, 1) := by decide +kernel
theorem dX7_sumOf_2 : decode cX7_sumOf 2 = .ok (.iconst 0, 1) := by decide +kernel
theorem dX7_sumOf_3 : decode cX7_sumOf 3 = .ok (.istore_n 3, 1) := by decide +kernel
theorem dX7_sumOf_4 : decode cX7_sumOf 4 = .ok (.iload_n 3, 1) := by decide +kernel
theorem dX7_sumOf_5 : decode cX7_sumOf 5 = .ok (.bipush 10, 2) := by decide +kernel
theorem dX7_sumOf_7 : decode cX7_sumOf 7 = .ok (.if_icmp .ge 23, 3) := by decide +kernel
theorem dX7_sumOf_10 : decode cX7_sumOf 10 = .ok (.iload_n 2, 1) := by decide +kernel
theorem dX7_sumOf_11 : decode cX7_sumOf 11 = .ok (.aload_n 0, 1) := by decide +kernel
theorem dX7_sumOf_12 : decode cX7_sumOf 12 = .ok (.getfield 16, 3) := by decide +kernel
theorem dX7_sumOf_15 : decode cX7_sumOf 15 = .ok (.bipush 10, 2) := by decide +kernel
theorem dX7_sumOf_17 : decode cX7_sumOf 17 = .ok (.iload_n 1, 1) := by decide +kernel
theorem dX7_sumOf_18 : decode cX7_sumOf 18 = .ok (.imul, 1) := by decide +kernel
theorem dX7_sumOf_19 : decode cX7_sumOf 19 = .ok (.iload_n 3, 1) := by decide +kernel
theorem dX7_sumOf_20 : decode cX7_sumOf 20 = .ok (.iadd, 1) := by decide +kernel
theorem dX7_sumOf_21 : decode cX7_sumOf 21 = .ok (.iaload, 1) := by decide +kernel
theorem dX7_sumOf_22 : decode cX7_sumOf 22 = .ok (.iadd, 1) := by decide +kernel
theorem dX7_sumOf_23 : decode cX7_sumOf 23 = .ok (.istore_n 2, 1) := by decide +kernel
theorem dX7_sumOf_24 : decode cX7_sumOf 24 = .ok (.iinc 3 1, 3) := by decide +kernel
theorem dX7_sumOf_27 : decode cX7_sumOf 27 = .ok (.goto (-23), 3) := by decide +kernel
theorem dX7_sumOf_30 : decode cX7_sumOf 30 = .ok (.iload_n 2, 1) := by decide +kernel
theorem dX7_sumOf_31 : decode cX7_sumOf 31 = .ok (.ireturn, 1) := by decide +kernel
set_option maxRecDepth 20000 in
theorem ggX7_pail_X7_isTwo : GoodIn wsX7_pail wsX7_isTwo := goodIn_r _ [6, 7, 8, 5, 9] (by decide +kernel) (by decide +kernel)
set_option maxRecDepth 20000 in
theorem gX7_pail_X7_isTwo : GoodIn wsX7_pail (va_wsS RX7 66 yX7_isTwo wsX7_isTwo) := goodIn_app (goodIn_of _ (by decide +kernel)) ggX7_pail_X7_isTwo
set_option maxRecDepth 20000 in
theorem ggX7_pail_X7_in : GoodIn wsX7_pail wsX7_in := goodIn_r _ [9] (by decide +kernel) (by decide +kernel)
set_option maxRecDepth 20000 in
theorem gX7_pail_X7_in : GoodIn wsX7_pail (va_wsS RX7 60 yX7_in wsX7_in) := goodIn_app (goodIn_of _ (by decide +kernel)) ggX7_pail_X7_in
theorem dX7_pail_0 : decode cX7_pail 0 = .ok (.iload_n 1, 1) := by decide +kernel
theorem dX7_pail_1 : decode cX7_pail 1 = .ok (.invokestatic 66, 3) := by decide +kernel
theorem dX7_pail_4 : decode cX7_pail 4 = .ok (.ifCond .ne 5, 3) := by decide +kernel
theorem dX7_pail_7 : decode cX7_pail 7 = .ok (.iconst (-1), 1) := by decide +kernel
theorem dX7_pail_8 : decode cX7_pail 8 = .ok (.ireturn, 1) := by decide +kernel
theorem dX7_pail_9 : decode cX7_pail 9 = .ok (.iload_n 2, 1) := by decide +kernel
theorem dX7_pail_10 : decode cX7_pail 10 = .ok (.invokestatic 66, 3) := by decide +kernel
theorem dX7_pail_13 : decode cX7_pail 13 = .ok (.ifCond .eq 22, 3) := by decide +kernel
theorem dX7_pail_16 : decode cX7_pail 16 = .ok (.iload_n 3, 1) := by decide +kernel
theorem dX7_pail_17 : decode cX7_pail 17 = .ok (.iload_n 2, 1) := by decide +kernel
theorem dX7_pail_18 : decode cX7_pail 18 = .ok (.ifCond .ne 7, 3) := by decide +kernel
theorem dX7_pail_21 : decode cX7_pail 21 = .ok (.iconst 0, 1) := by decide +kernel
theorem dX7_pail_22 : decode cX7_pail 22 = .ok (.goto 5, 3) := by decide +kernel
theorem dX7_pail_25 : decode cX7_pail 25 = .ok (.bipush 10, 2) := by decide +kernel
theorem dX7_pail_27 : decode cX7_pail 27 = .ok (.bipush 100, 2) := by decide +kernel
theorem dX7_pail_29 : decode cX7_pail 29 = .ok (.invokestatic 60, 3) := by decide +kernel
theorem dX7_pail_32 : decode cX7_pail 32 = .ok (.ifCond .ne 6, 3) := by decide +kernel
theorem dX7_pail_35 : decode cX7_pail 35 = .ok (.bipush (-2), 2) := by decide +kernel
theorem dX7_pail_37 : decode cX7_pail 37 = .ok (.ireturn, 1) := by decide +kernel
theorem dX7_pail_38 : decode cX7_pail 38 = .ok (.iload_n 2, 1) := by decide +kernel
theorem dX7_pail_39 : decode cX7_pail 39 = .ok (.ifCond .ne 12, 3) := by decide +kernel
theorem dX7_pail_42 : decode cX7_pail 42 = .ok (.aload_n 0, 1) := by decide +kernel
theorem dX7_pail_43 : decode cX7_pail 43 = .ok (.getfield 7, 3) := by decide +kernel
theorem dX7_pail_46 : decode cX7_pail 46 = .ok (.iload_n 1, 1) := by decide +kernel
theorem dX7_pail_47 : decode cX7_pail 47 = .ok (.iaload, 1) := by decide +kernel
theorem dX7_pail_48 : decode cX7_pail 48 = .ok (.goto 9, 3) := by decide +kernel
theorem dX7_pail_51 : decode cX7_pail 51 = .ok (.aload_n 0, 1) := by decide +kernel
theorem dX7_pail_52 : decode cX7_pail 52 = .ok (.getfield 13, 3) := by decide +kernel
theorem dX7_pail_55 : decode cX7_pail 55 = .ok (.iload_n 1, 1) := by decide +kernel
theorem dX7_pail_56 : decode cX7_pail 56 = .ok (.iaload, 1) := by decide +kernel
theorem dX7_pail_57 : decode cX7_pail 57 = .ok (.istore 4, 2) := by decide +kernel
theorem dX7_pail_59 : decode cX7_pail 59 = .ok (.iload_n 2, 1) := by decide +kernel
theorem dX7_pail_60 : decode cX7_pail 60 = .ok (.ifCond .ne 13, 3) := by decide +kernel
theorem dX7_pail_63 : decode cX7_pail 63 = .ok (.aload_n 0, 1) := by decide +kernel
theorem dX7_pail_64 : decode cX7_pail 64 = .ok (.getfield 7, 3) := by decide +kernel
theorem dX7_pail_67 : decode cX7_pail 67 = .ok (.iload_n 1, 1) := by decide +kernel
theorem dX7_pail_68 : decode cX7_pail 68 = .ok (.iload_n 3, 1) := by decide +kernel
theorem dX7_pail_69 : decode cX7_pail 69 = .ok (.iastore, 1) := by decide +kernel
theorem dX7_pail_70 : decode cX7_pail 70 = .ok (.goto 10, 3) := by decide +kernel
theorem dX7_pail_73 : decode cX7_pail 73 = .ok (.aload_n 0, 1) := by decide +kernel
theorem dX7_pail_74 : decode cX7_pail 74 = .ok (.getfield 13, 3) := by decide +kernel
theorem dX7_pail_77 : decode cX7_pail 77 = .ok (.iload_n 1, 1) := by decide +kernel
theorem dX7_pail_78 : decode cX7_pail 78 = .ok (.iload_n 3, 1) := by decide +kernel
theorem dX7_pail_79 : decode cX7_pail 79 = .ok (.iastore, 1) := by decide +kernel
theorem dX7_pail_80 : decode cX7_pail 80 = .ok (.iload 4, 2) := by decide +kernel
theorem dX7_pail_82 : decode cX7_pail 82 = .ok (.ireturn, 1) := by decide +kernel
set_option maxRecDepth 20000 in
theorem ggX7_row_X7_isTwo : GoodIn wsX7_row wsX7_isTwo := goodIn_r _ [9, 10, 11, 8, 12] (by decide +kernel) (by decide +kernel)
set_option maxRecDepth 20000 in
theorem gX7_row_X7_isTwo : GoodIn wsX7_row (va_wsS RX7 66 yX7_isTwo wsX7_isTwo) := goodIn_app (goodIn_of _ (by decide +kernel)) ggX7_row_X7_isTwo
set_option maxRecDepth 20000 in
theorem ggX7_row_X7_layRow : GoodIn wsX7_row wsX7_layRow := goodIn_r _ [16, 5, 4, 17, 18, 19, 20, 21, 22, 23, 24, 25, 26, 27, 28, 29, 30, 31, 32, 33, 34, 35, 36, 37, 38, 39] (by decide +kernel) (by decide +kernel)
set_option maxRecDepth 20000 in
theorem gX7_row_X7_layRow : GoodIn wsX7_row (wsV RX7 56 RX7 yX7_layRow wsX7_layRow) := goodIn_app (goodIn_of _ (by decide +kernel)) ggX7_row_X7_layRow
theorem dX7_row_0 : decode cX7_row 0 = .ok (.iload_n 1, 1) := by decide +kernel
theorem dX7_row_1 : decode cX7_row 1 = .ok (.invokestatic 66, 3) := by decide +kernel
theorem dX7_row_4 : decode cX7_row 4 = .ok (.ifCond .ne 7, 3) := by decide +kernel
theorem dX7_row_7 : decode cX7_row 7 = .ok (.ldc2_w 70, 3) := by decide +kernel
theorem dX7_row_10 : decode cX7_row 10 = .ok (.lreturn, 1) := by decide +kernel
theorem dX7_row_11 : decode cX7_row 11 = .ok (.lload_n 2, 1) := by decide +kernel
theorem dX7_row_12 : decode cX7_row 12 = .ok (.lconst 1, 1) := by decide +kernel
theorem dX7_row_13 : decode cX7_row 13 = .ok (.lcmp, 1) := by decide +kernel
theorem dX7_row_14 : decode cX7_row 14 = .ok (.ifCond .lt 11, 3) := by decide +kernel
theorem dX7_row_17 : decode cX7_row 17 = .ok (.lload_n 2, 1) := by decide +kernel
theorem dX7_row_18 : decode cX7_row 18 = .ok (.ldc2_w 72, 3) := by decide +kernel
theorem dX7_row_21 : decode cX7_row 21 = .ok (.lcmp, 1) := by decide +kernel
theorem dX7_row_22 : decode cX7_row 22 = .ok (.ifCond .le 7, 3) := by decide +kernel
theorem dX7_row_25 : decode cX7_row 25 = .ok (.ldc2_w 74, 3) := by decide +kernel
theorem dX7_row_28 : decode cX7_row 28 = .ok (.lreturn, 1) := by decide +kernel
theorem dX7_row_29 : decode cX7_row 29 = .ok (.lconst 0, 1) := by decide +kernel
theorem dX7_row_30 : decode cX7_row 30 = .ok (.lstore 4, 2) := by decide +kernel
theorem dX7_row_32 : decode cX7_row 32 = .ok (.iconst 0, 1) := by decide +kernel
theorem dX7_row_33 : decode cX7_row 33 = .ok (.istore 6, 2) := by decide +kernel
theorem dX7_row_35 : decode cX7_row 35 = .ok (.iload 6, 2) := by decide +kernel
theorem dX7_row_37 : decode cX7_row 37 = .ok (.bipush 10, 2) := by decide +kernel
theorem dX7_row_39 : decode cX7_row 39 = .ok (.if_icmp .ge 31, 3) := by decide +kernel
theorem dX7_row_42 : decode cX7_row 42 = .ok (.ldc2_w 64, 3) := by decide +kernel
theorem dX7_row_45 : decode cX7_row 45 = .ok (.lload 4, 2) := by decide +kernel
theorem dX7_row_47 : decode cX7_row 47 = .ok (.lmul, 1) := by decide +kernel
theorem dX7_row_48 : decode cX7_row 48 = .ok (.aload_n 0, 1) := by decide +kernel
theorem dX7_row_49 : decode cX7_row 49 = .ok (.getfield 16, 3) := by decide +kernel
theorem dX7_row_52 : decode cX7_row 52 = .ok (.bipush 10, 2) := by decide +kernel
theorem dX7_row_54 : decode cX7_row 54 = .ok (.iload_n 1, 1) := by decide +kernel
theorem dX7_row_55 : decode cX7_row 55 = .ok (.imul, 1) := by decide +kernel
theorem dX7_row_56 : decode cX7_row 56 = .ok (.iload 6, 2) := by decide +kernel
theorem dX7_row_58 : decode cX7_row 58 = .ok (.iadd, 1) := by decide +kernel
theorem dX7_row_59 : decode cX7_row 59 = .ok (.iaload, 1) := by decide +kernel
theorem dX7_row_60 : decode cX7_row 60 = .ok (.i2l, 1) := by decide +kernel
theorem dX7_row_61 : decode cX7_row 61 = .ok (.ladd, 1) := by decide +kernel
theorem dX7_row_62 : decode cX7_row 62 = .ok (.lstore 4, 2) := by decide +kernel
theorem dX7_row_64 : decode cX7_row 64 = .ok (.iinc 6 1, 3) := by decide +kernel
theorem dX7_row_67 : decode cX7_row 67 = .ok (.goto (-32), 3) := by decide +kernel
theorem dX7_row_70 : decode cX7_row 70 = .ok (.aload_n 0, 1) := by decide +kernel
theorem dX7_row_71 : decode cX7_row 71 = .ok (.iload_n 1, 1) := by decide +kernel
theorem dX7_row_72 : decode cX7_row 72 = .ok (.lload_n 2, 1) := by decide +kernel
theorem dX7_row_73 : decode cX7_row 73 = .ok (.invokevirtual 56, 3) := by decide +kernel
theorem dX7_row_76 : decode cX7_row 76 = .ok (.lload 4, 2) := by decide +kernel
theorem dX7_row_78 : decode cX7_row 78 = .ok (.lreturn, 1) := by decide +kernel
theorem dX7_mostOf_0 : decode cX7_mostOf 0 = .ok (.iload_n 0, 1) := by decide +kernel
theorem dX7_mostOf_1 : decode cX7_mostOf 1 = .ok (.tableswitch 73 0 10 #[59, 73, 73, 73, 73, 73, 73, 62, 65, 68, 70], 59) := by decide +kernel
theorem dX7_mostOf_60 : decode cX7_mostOf 60 = .ok (.bipush 40, 2) := by decide +kernel
theorem dX7_mostOf_62 : decode cX7_mostOf 62 = .ok (.ireturn, 1) := by decide +kernel
theorem dX7_mostOf_63 : decode cX7_mostOf 63 = .ok (.bipush 99, 2) := by decide +kernel
theorem dX7_mostOf_65 : decode cX7_mostOf 65 = .ok (.ireturn, 1) := by decide +kernel
theorem dX7_mostOf_66 : decode cX7_mostOf 66 = .ok (.bipush 80, 2) := by decide +kernel
theorem dX7_mostOf_68 : decode cX7_mostOf 68 = .ok (.ireturn, 1) := by decide +kernel
theorem dX7_mostOf_69 : decode cX7_mostOf 69 = .ok (.iconst 3, 1) := by decide +kernel
theorem dX7_mostOf_70 : decode cX7_mostOf 70 = .ok (.ireturn, 1) := by decide +kernel
theorem dX7_mostOf_71 : decode cX7_mostOf 71 = .ok (.bipush 7, 2) := by decide +kernel
theorem dX7_mostOf_73 : decode cX7_mostOf 73 = .ok (.ireturn, 1) := by decide +kernel
theorem dX7_mostOf_74 : decode cX7_mostOf 74 = .ok (.bipush 50, 2) := by decide +kernel
theorem dX7_mostOf_76 : decode cX7_mostOf 76 = .ok (.ireturn, 1) := by decide +kernel
set_option maxRecDepth 20000 in
theorem ggX7_set_X7_in : GoodIn wsX7_set wsX7_in := goodIn_r _ [5] (by decide +kernel) (by decide +kernel)
set_option maxRecDepth 20000 in
theorem gX7_set_X7_in : GoodIn wsX7_set (va_wsS RX7 60 yX7_in wsX7_in) := goodIn_app (goodIn_of _ (by decide +kernel)) ggX7_set_X7_in
set_option maxRecDepth 20000 in
theorem ggX7_set_X7_mostOf : GoodIn wsX7_set wsX7_mostOf := goodIn_r _ [8] (by decide +kernel) (by decide +kernel)
set_option maxRecDepth 20000 in
theorem gX7_set_X7_mostOf : GoodIn wsX7_set (va_wsS RX7 76 yX7_mostOf wsX7_mostOf) := goodIn_app (goodIn_of _ (by decide +kernel)) ggX7_set_X7_mostOf
theorem dX7_set_0 : decode cX7_set 0 = .ok (.iload_n 1, 1) := by decide +kernel
theorem dX7_set_1 : decode cX7_set 1 = .ok (.iconst 0, 1) := by decide +kernel
theorem dX7_set_2 : decode cX7_set 2 = .ok (.bipush 10, 2) := by decide +kernel
theorem dX7_set_4 : decode cX7_set 4 = .ok (.invokestatic 60, 3) := by decide +kernel
theorem dX7_set_7 : decode cX7_set 7 = .ok (.ifCond .eq 29, 3) := by decide +kernel
theorem dX7_set_10 : decode cX7_set 10 = .ok (.iload_n 2, 1) := by decide +kernel
theorem dX7_set_11 : decode cX7_set 11 = .ok (.iload_n 1, 1) := by decide +kernel
theorem dX7_set_12 : decode cX7_set 12 = .ok (.ifCond .eq 9, 3) := by decide +kernel
theorem dX7_set_15 : decode cX7_set 15 = .ok (.iload_n 1, 1) := by decide +kernel
theorem dX7_set_16 : decode cX7_set 16 = .ok (.bipush 8, 2) := by decide +kernel
theorem dX7_set_18 : decode cX7_set 18 = .ok (.if_icmp .ne 7, 3) := by decide +kernel
theorem dX7_set_21 : decode cX7_set 21 = .ok (.iconst 1, 1) := by decide +kernel
theorem dX7_set_22 : decode cX7_set 22 = .ok (.goto 4, 3) := by decide +kernel
theorem dX7_set_25 : decode cX7_set 25 = .ok (.iconst 0, 1) := by decide +kernel
theorem dX7_set_26 : decode cX7_set 26 = .ok (.iload_n 1, 1) := by decide +kernel
theorem dX7_set_27 : decode cX7_set 27 = .ok (.invokestatic 76, 3) := by decide +kernel
theorem dX7_set_30 : decode cX7_set 30 = .ok (.invokestatic 60, 3) := by decide +kernel
theorem dX7_set_33 : decode cX7_set 33 = .ok (.ifCond .ne 6, 3) := by decide +kernel
theorem dX7_set_36 : decode cX7_set 36 = .ok (.bipush (-2), 2) := by decide +kernel
theorem dX7_set_38 : decode cX7_set 38 = .ok (.ireturn, 1) := by decide +kernel
theorem dX7_set_39 : decode cX7_set 39 = .ok (.aload_n 0, 1) := by decide +kernel
theorem dX7_set_40 : decode cX7_set 40 = .ok (.getfield 19, 3) := by decide +kernel
theorem dX7_set_43 : decode cX7_set 43 = .ok (.iload_n 1, 1) := by decide +kernel
theorem dX7_set_44 : decode cX7_set 44 = .ok (.iaload, 1) := by decide +kernel
theorem dX7_set_45 : decode cX7_set 45 = .ok (.istore_n 3, 1) := by decide +kernel
theorem dX7_set_46 : decode cX7_set 46 = .ok (.aload_n 0, 1) := by decide +kernel
theorem dX7_set_47 : decode cX7_set 47 = .ok (.getfield 19, 3) := by decide +kernel
theorem dX7_set_50 : decode cX7_set 50 = .ok (.iload_n 1, 1) := by decide +kernel
theorem dX7_set_51 : decode cX7_set 51 = .ok (.iload_n 2, 1) := by decide +kernel
theorem dX7_set_52 : decode cX7_set 52 = .ok (.iastore, 1) := by decide +kernel
theorem dX7_set_53 : decode cX7_set 53 = .ok (.iload_n 3, 1) := by decide +kernel
theorem dX7_set_54 : decode cX7_set 54 = .ok (.ireturn, 1) := by decide +kernel
theorem dX7_far_0 : decode cX7_far 0 = .ok (.lload_n 0, 1) := by decide +kernel
theorem dX7_far_1 : decode cX7_far 1 = .ok (.ldc2_w 80, 3) := by decide +kernel
theorem dX7_far_4 : decode cX7_far 4 = .ok (.lcmp, 1) := by decide +kernel
theorem dX7_far_5 : decode cX7_far 5 = .ok (.ifCond .le 11, 3) := by decide +kernel
theorem dX7_far_8 : decode cX7_far 8 = .ok (.lload_n 0, 1) := by decide +kernel
theorem dX7_far_9 : decode cX7_far 9 = .ok (.ldc2_w 80, 3) := by decide +kernel
theorem dX7_far_12 : decode cX7_far 12 = .ok (.lsub, 1) := by decide +kernel
theorem dX7_far_13 : decode cX7_far 13 = .ok (.goto 8, 3) := by decide +kernel
theorem dX7_far_16 : decode cX7_far 16 = .ok (.ldc2_w 80, 3) := by decide +kernel
theorem dX7_far_19 : decode cX7_far 19 = .ok (.lload_n 0, 1) := by decide +kernel
theorem dX7_far_20 : decode cX7_far 20 = .ok (.lsub, 1) := by decide +kernel
theorem dX7_far_21 : decode cX7_far 21 = .ok (.lreturn, 1) := by decide +kernel
theorem dX7_half_0 : decode cX7_half 0 = .ok (.lload_n 0, 1) := by decide +kernel
theorem dX7_half_1 : decode cX7_half 1 = .ok (.lconst 0, 1) := by decide +kernel
theorem dX7_half_2 : decode cX7_half 2 = .ok (.lcmp, 1) := by decide +kernel
theorem dX7_half_3 : decode cX7_half 3 = .ok (.ifCond .ge 13, 3) := by decide +kernel
theorem dX7_half_6 : decode cX7_half 6 = .ok (.lload_n 0, 1) := by decide +kernel
theorem dX7_half_7 : decode cX7_half 7 = .ok (.ldc2_w 82, 3) := by decide +kernel
theorem dX7_half_10 : decode cX7_half 10 = .ok (.lrem, 1) := by decide +kernel
theorem dX7_half_11 : decode cX7_half 11 = .ok (.lconst 0, 1) := by decide +kernel
theorem dX7_half_12 : decode cX7_half 12 = .ok (.lcmp, 1) := by decide +kernel
theorem dX7_half_13 : decode cX7_half 13 = .ok (.ifCond .ne 11, 3) := by decide +kernel
theorem dX7_half_16 : decode cX7_half 16 = .ok (.lload_n 0, 1) := by decide +kernel
theorem dX7_half_17 : decode cX7_half 17 = .ok (.ldc2_w 82, 3) := by decide +kernel
theorem dX7_half_20 : decode cX7_half 20 = .ok (.ldiv, 1) := by decide +kernel
theorem dX7_half_21 : decode cX7_half 21 = .ok (.goto 10, 3) := by decide +kernel
theorem dX7_half_24 : decode cX7_half 24 = .ok (.lload_n 0, 1) := by decide +kernel
theorem dX7_half_25 : decode cX7_half 25 = .ok (.ldc2_w 82, 3) := by decide +kernel
theorem dX7_half_28 : decode cX7_half 28 = .ok (.ldiv, 1) := by decide +kernel
theorem dX7_half_29 : decode cX7_half 29 = .ok (.lconst 1, 1) := by decide +kernel
theorem dX7_half_30 : decode cX7_half 30 = .ok (.lsub, 1) := by decide +kernel
theorem dX7_half_31 : decode cX7_half 31 = .ok (.lreturn, 1) := by decide +kernel
set_option maxRecDepth 20000 in
theorem ggX7_cool_X7_far : GoodIn wsX7_cool wsX7_far := goodIn_r _ [13, 14] (by decide +kernel) (by decide +kernel)
set_option maxRecDepth 20000 in
theorem gX7_cool_X7_far : GoodIn wsX7_cool (va_wsS RX7 99 yX7_far wsX7_far) := goodIn_app (goodIn_of _ (by decide +kernel)) ggX7_cool_X7_far
set_option maxRecDepth 20000 in
theorem ggX7_cool_X7_half : GoodIn wsX7_cool wsX7_half := goodIn_r _ [17, 18] (by decide +kernel) (by decide +kernel)
set_option maxRecDepth 20000 in
theorem gX7_cool_X7_half : GoodIn wsX7_cool (va_wsS RX7 103 yX7_half wsX7_half) := goodIn_app (goodIn_of _ (by decide +kernel)) ggX7_cool_X7_half
theorem dX7_cool_0 : decode cX7_cool 0 = .ok (.aload_n 0, 1) := by decide +kernel
theorem dX7_cool_1 : decode cX7_cool 1 = .ok (.getfield 31, 3) := by decide +kernel
theorem dX7_cool_4 : decode cX7_cool 4 = .ok (.iconst 0, 1) := by decide +kernel
theorem dX7_cool_5 : decode cX7_cool 5 = .ok (.laload, 1) := by decide +kernel
theorem dX7_cool_6 : decode cX7_cool 6 = .ok (.lstore_n 2, 1) := by decide +kernel
theorem dX7_cool_7 : decode cX7_cool 7 = .ok (.aload_n 0, 1) := by decide +kernel
theorem dX7_cool_8 : decode cX7_cool 8 = .ok (.getfield 31, 3) := by decide +kernel
theorem dX7_cool_11 : decode cX7_cool 11 = .ok (.iconst 3, 1) := by decide +kernel
theorem dX7_cool_12 : decode cX7_cool 12 = .ok (.laload, 1) := by decide +kernel
theorem dX7_cool_13 : decode cX7_cool 13 = .ok (.lstore 4, 2) := by decide +kernel
theorem dX7_cool_15 : decode cX7_cool 15 = .ok (.iload_n 1, 1) := by decide +kernel
theorem dX7_cool_16 : decode cX7_cool 16 = .ok (.iconst 2, 1) := by decide +kernel
theorem dX7_cool_17 : decode cX7_cool 17 = .ok (.iand, 1) := by decide +kernel
theorem dX7_cool_18 : decode cX7_cool 18 = .ok (.iconst 2, 1) := by decide +kernel
theorem dX7_cool_19 : decode cX7_cool 19 = .ok (.if_icmp .ne 16, 3) := by decide +kernel
theorem dX7_cool_22 : decode cX7_cool 22 = .ok (.aload_n 0, 1) := by decide +kernel
theorem dX7_cool_23 : decode cX7_cool 23 = .ok (.getfield 84, 3) := by decide +kernel
theorem dX7_cool_26 : decode cX7_cool 26 = .ok (.lconst 0, 1) := by decide +kernel
theorem dX7_cool_27 : decode cX7_cool 27 = .ok (.lcmp, 1) := by decide +kernel
theorem dX7_cool_28 : decode cX7_cool 28 = .ok (.ifCond .le 7, 3) := by decide +kernel
theorem dX7_cool_31 : decode cX7_cool 31 = .ok (.iconst 1, 1) := by decide +kernel
theorem dX7_cool_32 : decode cX7_cool 32 = .ok (.goto 4, 3) := by decide +kernel
theorem dX7_cool_35 : decode cX7_cool 35 = .ok (.iconst 0, 1) := by decide +kernel
theorem dX7_cool_36 : decode cX7_cool 36 = .ok (.istore 6, 2) := by decide +kernel
theorem dX7_cool_38 : decode cX7_cool 38 = .ok (.iconst 0, 1) := by decide +kernel
theorem dX7_cool_39 : decode cX7_cool 39 = .ok (.istore 7, 2) := by decide +kernel
theorem dX7_cool_41 : decode cX7_cool 41 = .ok (.iload 7, 2) := by decide +kernel
theorem dX7_cool_43 : decode cX7_cool 43 = .ok (.iconst 4, 1) := by decide +kernel
theorem dX7_cool_44 : decode cX7_cool 44 = .ok (.if_icmp .ge 118, 3) := by decide +kernel
theorem dX7_cool_47 : decode cX7_cool 47 = .ok (.aload_n 0, 1) := by decide +kernel
theorem dX7_cool_48 : decode cX7_cool 48 = .ok (.getfield 19, 3) := by decide +kernel
theorem dX7_cool_51 : decode cX7_cool 51 = .ok (.iconst 1, 1) := by decide +kernel
theorem dX7_cool_52 : decode cX7_cool 52 = .ok (.iaload, 1) := by decide +kernel
theorem dX7_cool_53 : decode cX7_cool 53 = .ok (.i2l, 1) := by decide +kernel
theorem dX7_cool_54 : decode cX7_cool 54 = .ok (.lstore 8, 2) := by decide +kernel
theorem dX7_cool_56 : decode cX7_cool 56 = .ok (.lload 8, 2) := by decide +kernel
theorem dX7_cool_58 : decode cX7_cool 58 = .ok (.iload 7, 2) := by decide +kernel
theorem dX7_cool_60 : decode cX7_cool 60 = .ok (.ifCond .ne 13, 3) := by decide +kernel
theorem dX7_cool_63 : decode cX7_cool 63 = .ok (.aload_n 0, 1) := by decide +kernel
theorem dX7_cool_64 : decode cX7_cool 64 = .ok (.getfield 19, 3) := by decide +kernel
theorem dX7_cool_67 : decode cX7_cool 67 = .ok (.iconst 2, 1) := by decide +kernel
theorem dX7_cool_68 : decode cX7_cool 68 = .ok (.iaload, 1) := by decide +kernel
theorem dX7_cool_69 : decode cX7_cool 69 = .ok (.i2l, 1) := by decide +kernel
theorem dX7_cool_70 : decode cX7_cool 70 = .ok (.goto 4, 3) := by decide +kernel
theorem dX7_cool_73 : decode cX7_cool 73 = .ok (.lconst 0, 1) := by decide +kernel
theorem dX7_cool_74 : decode cX7_cool 74 = .ok (.ladd, 1) := by decide +kernel
theorem dX7_cool_75 : decode cX7_cool 75 = .ok (.lstore 8, 2) := by decide +kernel
theorem dX7_cool_77 : decode cX7_cool 77 = .ok (.lload 8, 2) := by decide +kernel
theorem dX7_cool_79 : decode cX7_cool 79 = .ok (.iload 7, 2) := by decide +kernel
theorem dX7_cool_81 : decode cX7_cool 81 = .ok (.iconst 3, 1) := by decide +kernel
