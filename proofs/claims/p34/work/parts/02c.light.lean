-- the program's names, words and instructions, as printed by TURN
set_option maxRecDepth 20000 in
theorem ggX9_init_X7_init : GoodIn wsX9_init wsX7_init := goodIn_r _ [19, 20, 2, 3, 21, 22, 23, 24, 25, 26, 27, 28, 29, 30, 31, 32, 33, 34, 35, 36, 37, 38, 39, 40, 41, 42, 43, 44, 45, 46, 47, 48, 49, 50, 51, 52, 53, 54, 55, 56, 57, 58, 59, 60, 61, 62, 63, 64, 65, 66, 67, 68, 105, 81, 82, 83, 84, 85, 86, 87, 88, 106, 107, 108, 109, 110, 111, 112, 113, 114, 115, 116, 117, 118, 119, 120, 121, 122, 123, 124] (by decide +kernel) (by decide +kernel)
set_option maxRecDepth 20000 in
theorem gX9_init_X7_init_n9 : GoodIn wsX9_init (wsX7_init) := ggX9_init_X7_init
set_option maxRecDepth 20000 in
theorem ggX9_init_X5_init : GoodIn wsX9_init wsX5_init := goodIn_r _ [71, 72, 2, 3, 73, 74, 5, 6, 18, 19, 20, 21, 22, 23, 24, 25, 26, 27, 28, 29, 30, 31, 32, 33, 34, 35, 36, 37, 38, 39, 40, 41, 42, 43, 44, 45, 46, 47, 48, 49, 50, 51, 52, 53, 54, 55, 56, 57, 58, 59, 60, 61, 62, 63, 64, 65, 66, 67, 68, 95, 96, 97, 81, 82, 83, 84, 85, 86, 87, 88, 105, 106, 107, 108, 109, 110, 111, 112, 113, 114, 115, 116, 117, 118, 119, 120, 121, 122, 123, 124] (by decide +kernel) (by decide +kernel)
set_option maxRecDepth 20000 in
theorem gX9_init_X5_init : GoodIn wsX9_init (wsX5_init) := ggX9_init_X5_init
set_option maxRecDepth 20000 in
theorem ggX9_init_X8_init : GoodIn wsX9_init wsX8_init := goodIn_r _ [76, 77, 2, 3, 78, 79, 37, 80, 98, 99, 100, 101, 102, 103, 104] (by decide +kernel) (by decide +kernel)
set_option maxRecDepth 20000 in
theorem gX9_init_X8_init_n31 : GoodIn wsX9_init (wsX8_init) := ggX9_init_X8_init
theorem dX9_init_0 : decode cX9_init 0 = .ok (.aload_n 0, 1) := by decide +kernel
theorem dX9_init_1 : decode cX9_init 1 = .ok (.invokespecial 1, 3) := by decide +kernel
theorem dX9_init_4 : decode cX9_init 4 = .ok (.aload_n 0, 1) := by decide +kernel
theorem dX9_init_5 : decode cX9_init 5 = .ok (.new 7, 3) := by decide +kernel
theorem dX9_init_8 : decode cX9_init 8 = .ok (.dup, 1) := by decide +kernel
theorem dX9_init_9 : decode cX9_init 9 = .ok (.invokespecial 9, 3) := by decide +kernel
theorem dX9_init_12 : decode cX9_init 12 = .ok (.putfield 10, 3) := by decide +kernel
theorem dX9_init_15 : decode cX9_init 15 = .ok (.aload_n 0, 1) := by decide +kernel
theorem dX9_init_16 : decode cX9_init 16 = .ok (.new 7, 3) := by decide +kernel
theorem dX9_init_19 : decode cX9_init 19 = .ok (.dup, 1) := by decide +kernel
theorem dX9_init_20 : decode cX9_init 20 = .ok (.invokespecial 9, 3) := by decide +kernel
theorem dX9_init_23 : decode cX9_init 23 = .ok (.putfield 16, 3) := by decide +kernel
theorem dX9_init_26 : decode cX9_init 26 = .ok (.aload_n 0, 1) := by decide +kernel
theorem dX9_init_27 : decode cX9_init 27 = .ok (.new 7, 3) := by decide +kernel
theorem dX9_init_30 : decode cX9_init 30 = .ok (.dup, 1) := by decide +kernel
theorem dX9_init_31 : decode cX9_init 31 = .ok (.invokespecial 9, 3) := by decide +kernel
theorem dX9_init_34 : decode cX9_init 34 = .ok (.putfield 19, 3) := by decide +kernel
theorem dX9_init_37 : decode cX9_init 37 = .ok (.aload_n 0, 1) := by decide +kernel
theorem dX9_init_38 : decode cX9_init 38 = .ok (.new 22, 3) := by decide +kernel
theorem dX9_init_41 : decode cX9_init 41 = .ok (.dup, 1) := by decide +kernel
theorem dX9_init_42 : decode cX9_init 42 = .ok (.invokespecial 24, 3) := by decide +kernel
theorem dX9_init_45 : decode cX9_init 45 = .ok (.putfield 25, 3) := by decide +kernel
theorem dX9_init_48 : decode cX9_init 48 = .ok (.aload_n 0, 1) := by decide +kernel
theorem dX9_init_49 : decode cX9_init 49 = .ok (.new 29, 3) := by decide +kernel
theorem dX9_init_52 : decode cX9_init 52 = .ok (.dup, 1) := by decide +kernel
theorem dX9_init_53 : decode cX9_init 53 = .ok (.invokespecial 31, 3) := by decide +kernel
theorem dX9_init_56 : decode cX9_init 56 = .ok (.putfield 32, 3) := by decide +kernel
theorem dX9_init_59 : decode cX9_init 59 = .ok (.return_, 1) := by decide +kernel
set_option maxRecDepth 20000 in
theorem ggX9_paint_X9_isOutside : GoodIn wsX9_paint wsX9_isOutside := goodIn_r _ [6] (by decide +kernel) (by decide +kernel)
set_option maxRecDepth 20000 in
theorem gX9_paint_X9_isOutside : GoodIn wsX9_paint (va_wsS RX9 36 yX9_isOutside wsX9_isOutside) := goodIn_app (goodIn_of _ (by decide +kernel)) ggX9_paint_X9_isOutside
set_option maxRecDepth 20000 in
theorem ggX9_paint_X5_keep : GoodIn wsX9_paint wsX5_keep := goodIn_r _ [11, 12, 13, 14, 15, 16, 17, 18, 19, 20, 21, 22, 23, 24, 25, 26, 27, 28, 29, 30, 31, 32, 33, 34, 35, 36, 37, 38, 39, 40, 41, 42, 43, 44, 45, 46, 47, 48, 49, 50, 51, 52, 53, 54, 55, 56, 57, 58, 59, 60, 61, 62, 63, 64, 65, 66, 67, 68, 69, 70, 71, 72, 73, 74, 75, 94, 95, 96, 86, 87, 88, 89, 90, 91, 92, 93, 97, 98, 99, 100, 101, 102, 103, 104, 105, 106, 107, 108, 109, 110, 111, 112, 113, 114, 115, 116] (by decide +kernel) (by decide +kernel)
set_option maxRecDepth 20000 in
theorem gX9_paint_X5_keep : GoodIn wsX9_paint (wsV RX9 40 RX5 yX5_keep wsX5_keep) := goodIn_app (goodIn_of _ (by decide +kernel)) ggX9_paint_X5_keep
set_option maxRecDepth 20000 in
theorem ggX9_paint_X2_give : GoodIn wsX9_paint wsX2_give := goodIn_r _ [79, 37, 97] (by decide +kernel) (by decide +kernel)
set_option maxRecDepth 20000 in
theorem gX9_paint_X2_give : GoodIn wsX9_paint (wsV RX9 48 RX2 yX2_give wsX2_give) := goodIn_app (goodIn_of _ (by decide +kernel)) ggX9_paint_X2_give
theorem dX9_paint_0 : decode cX9_paint 0 = .ok (.iload_n 1, 1) := by decide +kernel
theorem dX9_paint_1 : decode cX9_paint 1 = .ok (.iconst 0, 1) := by decide +kernel
theorem dX9_paint_2 : decode cX9_paint 2 = .ok (.iconst 3, 1) := by decide +kernel
theorem dX9_paint_3 : decode cX9_paint 3 = .ok (.invokestatic 36, 3) := by decide +kernel
theorem dX9_paint_6 : decode cX9_paint 6 = .ok (.ifCond .ne 23, 3) := by decide +kernel
theorem dX9_paint_9 : decode cX9_paint 9 = .ok (.iload_n 2, 1) := by decide +kernel
theorem dX9_paint_10 : decode cX9_paint 10 = .ok (.iconst 0, 1) := by decide +kernel
theorem dX9_paint_11 : decode cX9_paint 11 = .ok (.bipush 63, 2) := by decide +kernel
theorem dX9_paint_13 : decode cX9_paint 13 = .ok (.invokestatic 36, 3) := by decide +kernel
theorem dX9_paint_16 : decode cX9_paint 16 = .ok (.ifCond .ne 13, 3) := by decide +kernel
theorem dX9_paint_19 : decode cX9_paint 19 = .ok (.iload_n 3, 1) := by decide +kernel
theorem dX9_paint_20 : decode cX9_paint 20 = .ok (.iconst 0, 1) := by decide +kernel
theorem dX9_paint_21 : decode cX9_paint 21 = .ok (.bipush 63, 2) := by decide +kernel
theorem dX9_paint_23 : decode cX9_paint 23 = .ok (.invokestatic 36, 3) := by decide +kernel
theorem dX9_paint_26 : decode cX9_paint 26 = .ok (.ifCond .eq 5, 3) := by decide +kernel
theorem dX9_paint_29 : decode cX9_paint 29 = .ok (.iconst (-1), 1) := by decide +kernel
theorem dX9_paint_30 : decode cX9_paint 30 = .ok (.ireturn, 1) := by decide +kernel
theorem dX9_paint_31 : decode cX9_paint 31 = .ok (.aload_n 0, 1) := by decide +kernel
theorem dX9_paint_32 : decode cX9_paint 32 = .ok (.getfield 25, 3) := by decide +kernel
theorem dX9_paint_35 : decode cX9_paint 35 = .ok (.aload_n 0, 1) := by decide +kernel
theorem dX9_paint_36 : decode cX9_paint 36 = .ok (.getfield 10, 3) := by decide +kernel
theorem dX9_paint_39 : decode cX9_paint 39 = .ok (.invokevirtual 40, 3) := by decide +kernel
theorem dX9_paint_42 : decode cX9_paint 42 = .ok (.aload_n 0, 1) := by decide +kernel
theorem dX9_paint_43 : decode cX9_paint 43 = .ok (.getfield 10, 3) := by decide +kernel
theorem dX9_paint_46 : decode cX9_paint 46 = .ok (.getfield 44, 3) := by decide +kernel
theorem dX9_paint_49 : decode cX9_paint 49 = .ok (.iload_n 1, 1) := by decide +kernel
theorem dX9_paint_50 : decode cX9_paint 50 = .ok (.iload_n 2, 1) := by decide +kernel
theorem dX9_paint_51 : decode cX9_paint 51 = .ok (.iload_n 3, 1) := by decide +kernel
theorem dX9_paint_52 : decode cX9_paint 52 = .ok (.invokevirtual 48, 3) := by decide +kernel
theorem dX9_paint_55 : decode cX9_paint 55 = .ok (.ireturn, 1) := by decide +kernel
set_option maxRecDepth 20000 in
theorem ggX9_color_X9_isOutside : GoodIn wsX9_color wsX9_isOutside := goodIn_r _ [5] (by decide +kernel) (by decide +kernel)
set_option maxRecDepth 20000 in
theorem gX9_color_X9_isOutside : GoodIn wsX9_color (va_wsS RX9 36 yX9_isOutside wsX9_isOutside) := goodIn_app (goodIn_of _ (by decide +kernel)) ggX9_color_X9_isOutside
set_option maxRecDepth 20000 in
theorem ggX9_color_X2_colorAt : GoodIn wsX9_color wsX2_colorAt := goodIn_r _ [10, 11, 26] (by decide +kernel) (by decide +kernel)
set_option maxRecDepth 20000 in
theorem gX9_color_X2_colorAt : GoodIn wsX9_color (wsV RX9 54 RX2 yX2_colorAt wsX2_colorAt) := goodIn_app (goodIn_of _ (by decide +kernel)) ggX9_color_X2_colorAt
theorem dX9_color_0 : decode cX9_color 0 = .ok (.iload_n 1, 1) := by decide +kernel
theorem dX9_color_1 : decode cX9_color 1 = .ok (.iconst 0, 1) := by decide +kernel
theorem dX9_color_2 : decode cX9_color 2 = .ok (.bipush 63, 2) := by decide +kernel
theorem dX9_color_4 : decode cX9_color 4 = .ok (.invokestatic 36, 3) := by decide +kernel
theorem dX9_color_7 : decode cX9_color 7 = .ok (.ifCond .eq 5, 3) := by decide +kernel
theorem dX9_color_10 : decode cX9_color 10 = .ok (.iconst (-1), 1) := by decide +kernel
theorem dX9_color_11 : decode cX9_color 11 = .ok (.ireturn, 1) := by decide +kernel
theorem dX9_color_12 : decode cX9_color 12 = .ok (.aload_n 0, 1) := by decide +kernel
theorem dX9_color_13 : decode cX9_color 13 = .ok (.getfield 10, 3) := by decide +kernel
theorem dX9_color_16 : decode cX9_color 16 = .ok (.getfield 44, 3) := by decide +kernel
theorem dX9_color_19 : decode cX9_color 19 = .ok (.iload_n 1, 1) := by decide +kernel
theorem dX9_color_20 : decode cX9_color 20 = .ok (.invokevirtual 54, 3) := by decide +kernel
theorem dX9_color_23 : decode cX9_color 23 = .ok (.ireturn, 1) := by decide +kernel
set_option maxRecDepth 20000 in
theorem ggX9_sector_X9_isOutside : GoodIn wsX9_sector wsX9_isOutside := goodIn_r _ [5] (by decide +kernel) (by decide +kernel)
set_option maxRecDepth 20000 in
theorem gX9_sector_X9_isOutside : GoodIn wsX9_sector (va_wsS RX9 36 yX9_isOutside wsX9_isOutside) := goodIn_app (goodIn_of _ (by decide +kernel)) ggX9_sector_X9_isOutside
set_option maxRecDepth 20000 in
theorem ggX9_sector_X2_beginOf : GoodIn wsX9_sector wsX2_beginOf := goodIn_r _ [10, 11, 12, 13, 9, 14, 15, 16, 17, 18, 19, 39] (by decide +kernel) (by decide +kernel)
set_option maxRecDepth 20000 in
theorem gX9_sector_X2_beginOf : GoodIn wsX9_sector (wsV RX9 58 RX2 yX2_beginOf wsX2_beginOf) := goodIn_app (goodIn_of _ (by decide +kernel)) ggX9_sector_X2_beginOf
set_option maxRecDepth 20000 in
theorem ggX9_sector_X2_lengthFrom : GoodIn wsX9_sector wsX2_lengthFrom := goodIn_r _ [23, 15, 16, 17, 9, 18, 19, 39] (by decide +kernel) (by decide +kernel)
set_option maxRecDepth 20000 in
theorem gX9_sector_X2_lengthFrom : GoodIn wsX9_sector (wsV RX9 61 RX2 yX2_lengthFrom wsX2_lengthFrom) := goodIn_app (goodIn_of _ (by decide +kernel)) ggX9_sector_X2_lengthFrom
set_option maxRecDepth 20000 in
theorem ggX9_sector_X2_colorAt : GoodIn wsX9_sector wsX2_colorAt := goodIn_r _ [18, 19, 39] (by decide +kernel) (by decide +kernel)
set_option maxRecDepth 20000 in
theorem gX9_sector_X2_colorAt : GoodIn wsX9_sector (wsV RX9 54 RX2 yX2_colorAt wsX2_colorAt) := goodIn_app (goodIn_of _ (by decide +kernel)) ggX9_sector_X2_colorAt
theorem dX9_sector_0 : decode cX9_sector 0 = .ok (.iload_n 1, 1) := by decide +kernel
theorem dX9_sector_1 : decode cX9_sector 1 = .ok (.ifCond .lt 12, 3) := by decide +kernel
theorem dX9_sector_4 : decode cX9_sector 4 = .ok (.iload_n 2, 1) := by decide +kernel
theorem dX9_sector_5 : decode cX9_sector 5 = .ok (.iconst 0, 1) := by decide +kernel
theorem dX9_sector_6 : decode cX9_sector 6 = .ok (.iconst 2, 1) := by decide +kernel
theorem dX9_sector_7 : decode cX9_sector 7 = .ok (.invokestatic 36, 3) := by decide +kernel
theorem dX9_sector_10 : decode cX9_sector 10 = .ok (.ifCond .eq 5, 3) := by decide +kernel
theorem dX9_sector_13 : decode cX9_sector 13 = .ok (.iconst (-1), 1) := by decide +kernel
theorem dX9_sector_14 : decode cX9_sector 14 = .ok (.ireturn, 1) := by decide +kernel
theorem dX9_sector_15 : decode cX9_sector 15 = .ok (.aload_n 0, 1) := by decide +kernel
theorem dX9_sector_16 : decode cX9_sector 16 = .ok (.getfield 10, 3) := by decide +kernel
theorem dX9_sector_19 : decode cX9_sector 19 = .ok (.getfield 44, 3) := by decide +kernel
theorem dX9_sector_22 : decode cX9_sector 22 = .ok (.iload_n 1, 1) := by decide +kernel
theorem dX9_sector_23 : decode cX9_sector 23 = .ok (.invokevirtual 58, 3) := by decide +kernel
theorem dX9_sector_26 : decode cX9_sector 26 = .ok (.istore_n 3, 1) := by decide +kernel
theorem dX9_sector_27 : decode cX9_sector 27 = .ok (.iload_n 3, 1) := by decide +kernel
theorem dX9_sector_28 : decode cX9_sector 28 = .ok (.iconst (-1), 1) := by decide +kernel
theorem dX9_sector_29 : decode cX9_sector 29 = .ok (.if_icmp .ne 6, 3) := by decide +kernel
theorem dX9_sector_32 : decode cX9_sector 32 = .ok (.bipush (-4), 2) := by decide +kernel
theorem dX9_sector_34 : decode cX9_sector 34 = .ok (.ireturn, 1) := by decide +kernel
theorem dX9_sector_35 : decode cX9_sector 35 = .ok (.iload_n 2, 1) := by decide +kernel
theorem dX9_sector_36 : decode cX9_sector 36 = .ok (.ifCond .ne 5, 3) := by decide +kernel
theorem dX9_sector_39 : decode cX9_sector 39 = .ok (.iload_n 3, 1) := by decide +kernel
theorem dX9_sector_40 : decode cX9_sector 40 = .ok (.ireturn, 1) := by decide +kernel
theorem dX9_sector_41 : decode cX9_sector 41 = .ok (.iload_n 2, 1) := by decide +kernel
theorem dX9_sector_42 : decode cX9_sector 42 = .ok (.iconst 1, 1) := by decide +kernel
theorem dX9_sector_43 : decode cX9_sector 43 = .ok (.if_icmp .ne 17, 3) := by decide +kernel
theorem dX9_sector_46 : decode cX9_sector 46 = .ok (.aload_n 0, 1) := by decide +kernel
theorem dX9_sector_47 : decode cX9_sector 47 = .ok (.getfield 10, 3) := by decide +kernel
theorem dX9_sector_50 : decode cX9_sector 50 = .ok (.getfield 44, 3) := by decide +kernel
theorem dX9_sector_53 : decode cX9_sector 53 = .ok (.iload_n 3, 1) := by decide +kernel
theorem dX9_sector_54 : decode cX9_sector 54 = .ok (.invokevirtual 61, 3) := by decide +kernel
theorem dX9_sector_57 : decode cX9_sector 57 = .ok (.goto 14, 3) := by decide +kernel
theorem dX9_sector_60 : decode cX9_sector 60 = .ok (.aload_n 0, 1) := by decide +kernel
theorem dX9_sector_61 : decode cX9_sector 61 = .ok (.getfield 10, 3) := by decide +kernel
theorem dX9_sector_64 : decode cX9_sector 64 = .ok (.getfield 44, 3) := by decide +kernel
theorem dX9_sector_67 : decode cX9_sector 67 = .ok (.iload_n 3, 1) := by decide +kernel
theorem dX9_sector_68 : decode cX9_sector 68 = .ok (.invokevirtual 54, 3) := by decide +kernel
theorem dX9_sector_71 : decode cX9_sector 71 = .ok (.ireturn, 1) := by decide +kernel
set_option maxRecDepth 20000 in
theorem ggX9_direction_X9_isFar : GoodIn wsX9_direction wsX9_isFar := goodIn_r _ [4, 5, 6, 3, 7] (by decide +kernel) (by decide +kernel)
set_option maxRecDepth 20000 in
theorem gX9_direction_X9_isFar : GoodIn wsX9_direction (va_wsS RX9 64 yX9_isFar wsX9_isFar) := goodIn_app (goodIn_of _ (by decide +kernel)) ggX9_direction_X9_isFar
set_option maxRecDepth 20000 in
theorem ggX9_direction_X3_between : GoodIn wsX9_direction wsX3_between := goodIn_r _ [11, 12, 13, 10, 14, 15, 16, 17, 18] (by decide +kernel) (by decide +kernel)
set_option maxRecDepth 20000 in
theorem gX9_direction_X3_between : GoodIn wsX9_direction (va_wsS RX9 68 yX3_between wsX3_between) := goodIn_app (goodIn_of _ (by decide +kernel)) ggX9_direction_X3_between
theorem dX9_direction_0 : decode cX9_direction 0 = .ok (.iload_n 1, 1) := by decide +kernel
theorem dX9_direction_1 : decode cX9_direction 1 = .ok (.invokestatic 64, 3) := by decide +kernel
theorem dX9_direction_4 : decode cX9_direction 4 = .ok (.ifCond .ne 10, 3) := by decide +kernel
theorem dX9_direction_7 : decode cX9_direction 7 = .ok (.iload_n 2, 1) := by decide +kernel
theorem dX9_direction_8 : decode cX9_direction 8 = .ok (.invokestatic 64, 3) := by decide +kernel
theorem dX9_direction_11 : decode cX9_direction 11 = .ok (.ifCond .eq 5, 3) := by decide +kernel
theorem dX9_direction_14 : decode cX9_direction 14 = .ok (.iconst (-1), 1) := by decide +kernel
theorem dX9_direction_15 : decode cX9_direction 15 = .ok (.ireturn, 1) := by decide +kernel
theorem dX9_direction_16 : decode cX9_direction 16 = .ok (.iload_n 1, 1) := by decide +kernel
theorem dX9_direction_17 : decode cX9_direction 17 = .ok (.iload_n 2, 1) := by decide +kernel
theorem dX9_direction_18 : decode cX9_direction 18 = .ok (.invokestatic 68, 3) := by decide +kernel
theorem dX9_direction_21 : decode cX9_direction 21 = .ok (.ireturn, 1) := by decide +kernel
set_option maxRecDepth 20000 in
theorem ggX9_again_X9_isFar : GoodIn wsX9_again wsX9_isFar := goodIn_r _ [4, 5, 6, 3, 7] (by decide +kernel) (by decide +kernel)
set_option maxRecDepth 20000 in
theorem gX9_again_X9_isFar : GoodIn wsX9_again (va_wsS RX9 64 yX9_isFar wsX9_isFar) := goodIn_app (goodIn_of _ (by decide +kernel)) ggX9_again_X9_isFar
set_option maxRecDepth 20000 in
theorem ggX9_again_X3_byQuarter : GoodIn wsX9_again wsX3_byQuarter := goodIn_r _ [11, 12, 13, 10, 14, 15, 16, 17, 18, 19, 20, 21] (by decide +kernel) (by decide +kernel)
set_option maxRecDepth 20000 in
theorem gX9_again_X3_byQuarter : GoodIn wsX9_again (va_wsS RX9 74 yX3_byQuarter wsX3_byQuarter) := goodIn_app (goodIn_of _ (by decide +kernel)) ggX9_again_X3_byQuarter
theorem dX9_again_0 : decode cX9_again 0 = .ok (.iload_n 1, 1) := by decide +kernel
theorem dX9_again_1 : decode cX9_again 1 = .ok (.invokestatic 64, 3) := by decide +kernel
theorem dX9_again_4 : decode cX9_again 4 = .ok (.ifCond .ne 10, 3) := by decide +kernel
theorem dX9_again_7 : decode cX9_again 7 = .ok (.iload_n 2, 1) := by decide +kernel
theorem dX9_again_8 : decode cX9_again 8 = .ok (.invokestatic 64, 3) := by decide +kernel
theorem dX9_again_11 : decode cX9_again 11 = .ok (.ifCond .eq 5, 3) := by decide +kernel
theorem dX9_again_14 : decode cX9_again 14 = .ok (.iconst (-1), 1) := by decide +kernel
theorem dX9_again_15 : decode cX9_again 15 = .ok (.ireturn, 1) := by decide +kernel
theorem dX9_again_16 : decode cX9_again 16 = .ok (.iload_n 1, 1) := by decide +kernel
theorem dX9_again_17 : decode cX9_again 17 = .ok (.iload_n 2, 1) := by decide +kernel
theorem dX9_again_18 : decode cX9_again 18 = .ok (.invokestatic 74, 3) := by decide +kernel
theorem dX9_again_21 : decode cX9_again 21 = .ok (.ireturn, 1) := by decide +kernel
set_option maxRecDepth 20000 in
theorem ggX9_setCode_X9_isOutside : GoodIn wsX9_setCode wsX9_isOutside := goodIn_r _ [6] (by decide +kernel) (by decide +kernel)
set_option maxRecDepth 20000 in
theorem gX9_setCode_X9_isOutside : GoodIn wsX9_setCode (va_wsS RX9 36 yX9_isOutside wsX9_isOutside) := goodIn_app (goodIn_of _ (by decide +kernel)) ggX9_setCode_X9_isOutside
set_option maxRecDepth 20000 in
theorem ggX9_setCode_X4_isFull : GoodIn wsX9_setCode wsX4_isFull := goodIn_r _ [11, 12, 106, 107, 108, 109, 110] (by decide +kernel) (by decide +kernel)
set_option maxRecDepth 20000 in
theorem gX9_setCode_X4_isFull : GoodIn wsX9_setCode (wsV RX9 81 RX4 yX4_isFull wsX4_isFull) := goodIn_app (goodIn_of _ (by decide +kernel)) ggX9_setCode_X4_isFull
set_option maxRecDepth 20000 in
theorem ggX9_setCode_X5_keep : GoodIn wsX9_setCode wsX5_keep := goodIn_r _ [17, 18, 19, 20, 21, 22, 23, 24, 25, 26, 27, 28, 29, 30, 31, 32, 33, 34, 35, 36, 37, 38, 39, 40, 41, 42, 43, 44, 45, 46, 47, 10, 48, 49, 50, 51, 12, 52, 53, 54, 55, 56, 57, 58, 59, 60, 61, 62, 63, 64, 65, 66, 67, 68, 69, 70, 71, 72, 73, 74, 75, 76, 77, 78, 79, 111, 112, 113, 98, 99, 100, 101, 102, 103, 104, 105, 114, 106, 107, 108, 109, 110, 115, 116, 117, 118, 119, 120, 121, 122, 123, 124, 125, 126, 127, 128] (by decide +kernel) (by decide +kernel)
set_option maxRecDepth 20000 in
theorem gX9_setCode_X5_keep : GoodIn wsX9_setCode (wsV RX9 40 RX5 yX5_keep wsX5_keep) := goodIn_app (goodIn_of _ (by decide +kernel)) ggX9_setCode_X5_keep
set_option maxRecDepth 20000 in
theorem ggX9_setCode_X4_drop : GoodIn wsX9_setCode wsX4_drop := goodIn_r _ [83, 12, 52, 53, 106, 107, 108, 109, 110] (by decide +kernel) (by decide +kernel)
set_option maxRecDepth 20000 in
theorem gX9_setCode_X4_drop : GoodIn wsX9_setCode (wsV RX9 87 RX4 yX4_drop wsX4_drop) := goodIn_app (goodIn_of _ (by decide +kernel)) ggX9_setCode_X4_drop
set_option maxRecDepth 20000 in
theorem ggX9_setCode_X4_append : GoodIn wsX9_setCode wsX4_append := goodIn_r _ [87, 12, 49, 51, 52, 53, 106, 107, 108, 109, 110] (by decide +kernel) (by decide +kernel)
set_option maxRecDepth 20000 in
theorem gX9_setCode_X4_append : GoodIn wsX9_setCode (wsV RX9 90 RX4 yX4_append wsX4_append) := goodIn_app (goodIn_of _ (by decide +kernel)) ggX9_setCode_X4_append
set_option maxRecDepth 20000 in
theorem ggX9_setCode_X4_period : GoodIn wsX9_setCode wsX4_period := goodIn_r _ [91, 52, 53, 106, 107, 108, 109, 110] (by decide +kernel) (by decide +kernel)
set_option maxRecDepth 20000 in
theorem gX9_setCode_X4_period : GoodIn wsX9_setCode (wsV RX9 94 RX4 yX4_period wsX4_period) := goodIn_app (goodIn_of _ (by decide +kernel)) ggX9_setCode_X4_period
theorem dX9_setCode_0 : decode cX9_setCode 0 = .ok (.iload_n 1, 1) := by decide +kernel
theorem dX9_setCode_1 : decode cX9_setCode 1 = .ok (.iconst 1, 1) := by decide +kernel
theorem dX9_setCode_2 : decode cX9_setCode 2 = .ok (.bipush 60, 2) := by decide +kernel
theorem dX9_setCode_4 : decode cX9_setCode 4 = .ok (.invokestatic 36, 3) := by decide +kernel
theorem dX9_setCode_7 : decode cX9_setCode 7 = .ok (.ifCond .ne 22, 3) := by decide +kernel
theorem dX9_setCode_10 : decode cX9_setCode 10 = .ok (.iload_n 2, 1) := by decide +kernel
theorem dX9_setCode_11 : decode cX9_setCode 11 = .ok (.iconst 0, 1) := by decide +kernel
theorem dX9_setCode_12 : decode cX9_setCode 12 = .ok (.bipush 60, 2) := by decide +kernel
theorem dX9_setCode_14 : decode cX9_setCode 14 = .ok (.invokestatic 36, 3) := by decide +kernel
theorem dX9_setCode_17 : decode cX9_setCode 17 = .ok (.ifCond .ne 12, 3) := by decide +kernel
theorem dX9_setCode_20 : decode cX9_setCode 20 = .ok (.iload_n 3, 1) := by decide +kernel
theorem dX9_setCode_21 : decode cX9_setCode 21 = .ok (.iconst 0, 1) := by decide +kernel
theorem dX9_setCode_22 : decode cX9_setCode 22 = .ok (.iconst 1, 1) := by decide +kernel
theorem dX9_setCode_23 : decode cX9_setCode 23 = .ok (.invokestatic 36, 3) := by decide +kernel
theorem dX9_setCode_26 : decode cX9_setCode 26 = .ok (.ifCond .eq 5, 3) := by decide +kernel
theorem dX9_setCode_29 : decode cX9_setCode 29 = .ok (.iconst (-1), 1) := by decide +kernel
theorem dX9_setCode_30 : decode cX9_setCode 30 = .ok (.ireturn, 1) := by decide +kernel
theorem dX9_setCode_31 : decode cX9_setCode 31 = .ok (.iload_n 3, 1) := by decide +kernel
theorem dX9_setCode_32 : decode cX9_setCode 32 = .ok (.ifCond .ne 19, 3) := by decide +kernel
theorem dX9_setCode_35 : decode cX9_setCode 35 = .ok (.aload_n 0, 1) := by decide +kernel
theorem dX9_setCode_36 : decode cX9_setCode 36 = .ok (.getfield 10, 3) := by decide +kernel
theorem dX9_setCode_39 : decode cX9_setCode 39 = .ok (.getfield 77, 3) := by decide +kernel
theorem dX9_setCode_42 : decode cX9_setCode 42 = .ok (.invokevirtual 81, 3) := by decide +kernel
theorem dX9_setCode_45 : decode cX9_setCode 45 = .ok (.ifCond .eq 6, 3) := by decide +kernel
theorem dX9_setCode_48 : decode cX9_setCode 48 = .ok (.bipush (-3), 2) := by decide +kernel
theorem dX9_setCode_50 : decode cX9_setCode 50 = .ok (.ireturn, 1) := by decide +kernel
theorem dX9_setCode_51 : decode cX9_setCode 51 = .ok (.aload_n 0, 1) := by decide +kernel
theorem dX9_setCode_52 : decode cX9_setCode 52 = .ok (.getfield 25, 3) := by decide +kernel
theorem dX9_setCode_55 : decode cX9_setCode 55 = .ok (.aload_n 0, 1) := by decide +kernel
theorem dX9_setCode_56 : decode cX9_setCode 56 = .ok (.getfield 10, 3) := by decide +kernel
theorem dX9_setCode_59 : decode cX9_setCode 59 = .ok (.invokevirtual 40, 3) := by decide +kernel
theorem dX9_setCode_62 : decode cX9_setCode 62 = .ok (.iload_n 3, 1) := by decide +kernel
theorem dX9_setCode_63 : decode cX9_setCode 63 = .ok (.iconst 1, 1) := by decide +kernel
theorem dX9_setCode_64 : decode cX9_setCode 64 = .ok (.if_icmp .ne 13, 3) := by decide +kernel
theorem dX9_setCode_67 : decode cX9_setCode 67 = .ok (.aload_n 0, 1) := by decide +kernel
theorem dX9_setCode_68 : decode cX9_setCode 68 = .ok (.getfield 10, 3) := by decide +kernel
theorem dX9_setCode_71 : decode cX9_setCode 71 = .ok (.getfield 77, 3) := by decide +kernel
theorem dX9_setCode_74 : decode cX9_setCode 74 = .ok (.invokevirtual 87, 3) := by decide +kernel
theorem dX9_setCode_77 : decode cX9_setCode 77 = .ok (.aload_n 0, 1) := by decide +kernel
theorem dX9_setCode_78 : decode cX9_setCode 78 = .ok (.getfield 10, 3) := by decide +kernel
theorem dX9_setCode_81 : decode cX9_setCode 81 = .ok (.getfield 77, 3) := by decide +kernel
theorem dX9_setCode_84 : decode cX9_setCode 84 = .ok (.iload_n 1, 1) := by decide +kernel
theorem dX9_setCode_85 : decode cX9_setCode 85 = .ok (.iload_n 2, 1) := by decide +kernel
theorem dX9_setCode_86 : decode cX9_setCode 86 = .ok (.invokevirtual 90, 3) := by decide +kernel
theorem dX9_setCode_89 : decode cX9_setCode 89 = .ok (.aload_n 0, 1) := by decide +kernel
theorem dX9_setCode_90 : decode cX9_setCode 90 = .ok (.getfield 10, 3) := by decide +kernel
theorem dX9_setCode_93 : decode cX9_setCode 93 = .ok (.getfield 77, 3) := by decide +kernel
theorem dX9_setCode_96 : decode cX9_setCode 96 = .ok (.invokevirtual 94, 3) := by decide +kernel
theorem dX9_setCode_99 : decode cX9_setCode 99 = .ok (.ireturn, 1) := by decide +kernel
set_option maxRecDepth 20000 in
theorem ggX9_code_X4_parts : GoodIn wsX9_code wsX4_parts := goodIn_r _ [6, 7, 43, 44, 45, 46, 47] (by decide +kernel) (by decide +kernel)
set_option maxRecDepth 20000 in
theorem gX9_code_X4_parts : GoodIn wsX9_code (wsV RX9 98 RX4 yX4_parts wsX4_parts) := goodIn_app (goodIn_of _ (by decide +kernel)) ggX9_code_X4_parts
set_option maxRecDepth 20000 in
theorem ggX9_code_X4_period : GoodIn wsX9_code wsX4_period := goodIn_r _ [11, 12, 13, 43, 44, 45, 46, 47] (by decide +kernel) (by decide +kernel)
set_option maxRecDepth 20000 in
theorem gX9_code_X4_period : GoodIn wsX9_code (wsV RX9 94 RX4 yX4_period wsX4_period) := goodIn_app (goodIn_of _ (by decide +kernel)) ggX9_code_X4_period
set_option maxRecDepth 20000 in
theorem ggX9_code_X4_lightTicks : GoodIn wsX9_code wsX4_lightTicks := goodIn_r _ [17, 12, 43, 44, 45, 46, 47] (by decide +kernel) (by decide +kernel)
set_option maxRecDepth 20000 in
theorem gX9_code_X4_lightTicks : GoodIn wsX9_code (wsV RX9 101 RX4 yX4_lightTicks wsX4_lightTicks) := goodIn_app (goodIn_of _ (by decide +kernel)) ggX9_code_X4_lightTicks
set_option maxRecDepth 20000 in
theorem ggX9_code_X4_kind : GoodIn wsX9_code wsX4_kind := goodIn_r _ [21, 13, 7, 12, 43, 44, 45, 46, 47] (by decide +kernel) (by decide +kernel)
set_option maxRecDepth 20000 in
theorem gX9_code_X4_kind : GoodIn wsX9_code (wsV RX9 104 RX4 yX4_kind wsX4_kind) := goodIn_app (goodIn_of _ (by decide +kernel)) ggX9_code_X4_kind
set_option maxRecDepth 20000 in
theorem ggX9_code_X4_isLitAt : GoodIn wsX9_code wsX4_isLitAt := goodIn_r _ [25, 7, 26, 27, 28, 9, 10, 5, 11, 12, 13, 43, 44, 45, 46, 47] (by decide +kernel) (by decide +kernel)
set_option maxRecDepth 20000 in
theorem gX9_code_X4_isLitAt : GoodIn wsX9_code (wsV RX9 111 RX4 yX4_isLitAt wsX4_isLitAt) := goodIn_app (goodIn_of _ (by decide +kernel)) ggX9_code_X4_isLitAt
theorem dX9_code_0 : decode cX9_code 0 = .ok (.iload_n 1, 1) := by decide +kernel
theorem dX9_code_1 : decode cX9_code 1 = .ok (.tableswitch 105 0 4 #[35, 46, 57, 68, 79], 35) := by decide +kernel
theorem dX9_code_36 : decode cX9_code 36 = .ok (.aload_n 0, 1) := by decide +kernel
theorem dX9_code_37 : decode cX9_code 37 = .ok (.getfield 10, 3) := by decide +kernel
theorem dX9_code_40 : decode cX9_code 40 = .ok (.getfield 77, 3) := by decide +kernel
theorem dX9_code_43 : decode cX9_code 43 = .ok (.invokevirtual 98, 3) := by decide +kernel
theorem dX9_code_46 : decode cX9_code 46 = .ok (.ireturn, 1) := by decide +kernel
theorem dX9_code_47 : decode cX9_code 47 = .ok (.aload_n 0, 1) := by decide +kernel
theorem dX9_code_48 : decode cX9_code 48 = .ok (.getfield 10, 3) := by decide +kernel
theorem dX9_code_51 : decode cX9_code 51 = .ok (.getfield 77, 3) := by decide +kernel
theorem dX9_code_54 : decode cX9_code 54 = .ok (.invokevirtual 94, 3) := by decide +kernel
theorem dX9_code_57 : decode cX9_code 57 = .ok (.ireturn, 1) := by decide +kernel
theorem dX9_code_58 : decode cX9_code 58 = .ok (.aload_n 0, 1) := by decide +kernel
theorem dX9_code_59 : decode cX9_code 59 = .ok (.getfield 10, 3) := by decide +kernel
theorem dX9_code_62 : decode cX9_code 62 = .ok (.getfield 77, 3) := by decide +kernel
theorem dX9_code_65 : decode cX9_code 65 = .ok (.invokevirtual 101, 3) := by decide +kernel
theorem dX9_code_68 : decode cX9_code 68 = .ok (.ireturn, 1) := by decide +kernel
theorem dX9_code_69 : decode cX9_code 69 = .ok (.aload_n 0, 1) := by decide +kernel
theorem dX9_code_70 : decode cX9_code 70 = .ok (.getfield 10, 3) := by decide +kernel
theorem dX9_code_73 : decode cX9_code 73 = .ok (.getfield 77, 3) := by decide +kernel
theorem dX9_code_76 : decode cX9_code 76 = .ok (.invokevirtual 104, 3) := by decide +kernel
theorem dX9_code_79 : decode cX9_code 79 = .ok (.ireturn, 1) := by decide +kernel
theorem dX9_code_80 : decode cX9_code 80 = .ok (.aload_n 0, 1) := by decide +kernel
theorem dX9_code_81 : decode cX9_code 81 = .ok (.getfield 10, 3) := by decide +kernel
theorem dX9_code_84 : decode cX9_code 84 = .ok (.getfield 77, 3) := by decide +kernel
theorem dX9_code_87 : decode cX9_code 87 = .ok (.aload_n 0, 1) := by decide +kernel
theorem dX9_code_88 : decode cX9_code 88 = .ok (.getfield 10, 3) := by decide +kernel
theorem dX9_code_91 : decode cX9_code 91 = .ok (.getfield 107, 3) := by decide +kernel
theorem dX9_code_94 : decode cX9_code 94 = .ok (.invokevirtual 111, 3) := by decide +kernel
theorem dX9_code_97 : decode cX9_code 97 = .ok (.ifCond .eq 7, 3) := by decide +kernel
theorem dX9_code_100 : decode cX9_code 100 = .ok (.iconst 1, 1) := by decide +kernel
theorem dX9_code_101 : decode cX9_code 101 = .ok (.goto 4, 3) := by decide +kernel
theorem dX9_code_104 : decode cX9_code 104 = .ok (.iconst 0, 1) := by decide +kernel
theorem dX9_code_105 : decode cX9_code 105 = .ok (.ireturn, 1) := by decide +kernel
theorem dX9_code_106 : decode cX9_code 106 = .ok (.iconst (-1), 1) := by decide +kernel
theorem dX9_code_107 : decode cX9_code 107 = .ok (.ireturn, 1) := by decide +kernel
set_option maxRecDepth 20000 in
theorem ggX9_shareBits_X4_share : GoodIn wsX9_shareBits wsX4_share := goodIn_r _ [6, 7, 8, 9, 10, 5, 11, 12, 35, 36, 37, 38, 39] (by decide +kernel) (by decide +kernel)
set_option maxRecDepth 20000 in
theorem gX9_shareBits_X4_share : GoodIn wsX9_shareBits (wsV RX9 114 RX4 yX4_share wsX4_share) := goodIn_app (goodIn_of _ (by decide +kernel)) ggX9_shareBits_X4_share
set_option maxRecDepth 20000 in
theorem ggX9_shareBits_X0_ofDouble : GoodIn wsX9_shareBits wsX0_ofDouble := goodIn_r _ [16, 17, 18, 15, 19, 20] (by decide +kernel) (by decide +kernel)
set_option maxRecDepth 20000 in
theorem gX9_shareBits_X0_ofDouble : GoodIn wsX9_shareBits (va_wsS RX9 118 yX0_ofDouble wsX0_ofDouble) := goodIn_app (goodIn_of _ (by decide +kernel)) ggX9_shareBits_X0_ofDouble
theorem dX9_shareBits_0 : decode cX9_shareBits 0 = .ok (.aload_n 0, 1) := by decide +kernel
theorem dX9_shareBits_1 : decode cX9_shareBits 1 = .ok (.getfield 10, 3) := by decide +kernel
theorem dX9_shareBits_4 : decode cX9_shareBits 4 = .ok (.getfield 77, 3) := by decide +kernel
theorem dX9_shareBits_7 : decode cX9_shareBits 7 = .ok (.invokevirtual 114, 3) := by decide +kernel
theorem dX9_shareBits_10 : decode cX9_shareBits 10 = .ok (.invokestatic 118, 3) := by decide +kernel
theorem dX9_shareBits_13 : decode cX9_shareBits 13 = .ok (.lreturn, 1) := by decide +kernel
set_option maxRecDepth 20000 in
theorem ggX9_next_X9_isOutside : GoodIn wsX9_next wsX9_isOutside := goodIn_r _ [5] (by decide +kernel) (by decide +kernel)
set_option maxRecDepth 20000 in
theorem gX9_next_X9_isOutside : GoodIn wsX9_next (va_wsS RX9 36 yX9_isOutside wsX9_isOutside) := goodIn_app (goodIn_of _ (by decide +kernel)) ggX9_next_X9_isOutside
set_option maxRecDepth 20000 in
theorem ggX9_next_X4_period : GoodIn wsX9_next wsX4_period := goodIn_r _ [10, 11, 12, 35, 36, 37, 38, 39] (by decide +kernel) (by decide +kernel)
set_option maxRecDepth 20000 in
theorem gX9_next_X4_period : GoodIn wsX9_next (wsV RX9 94 RX4 yX4_period wsX4_period) := goodIn_app (goodIn_of _ (by decide +kernel)) ggX9_next_X4_period
set_option maxRecDepth 20000 in
theorem ggX9_next_X4_isLitAt : GoodIn wsX9_next wsX4_isLitAt := goodIn_r _ [16, 17, 18, 19, 20, 7, 8, 9, 10, 11, 12, 35, 36, 37, 38, 39] (by decide +kernel) (by decide +kernel)
set_option maxRecDepth 20000 in
theorem gX9_next_X4_isLitAt : GoodIn wsX9_next (wsV RX9 111 RX4 yX4_isLitAt wsX4_isLitAt) := goodIn_app (goodIn_of _ (by decide +kernel)) ggX9_next_X4_isLitAt
theorem dX9_next_0 : decode cX9_next 0 = .ok (.iload_n 1, 1) := by decide +kernel
theorem dX9_next_1 : decode cX9_next 1 = .ok (.iconst 0, 1) := by decide +kernel
theorem dX9_next_2 : decode cX9_next 2 = .ok (.iconst 1, 1) := by decide +kernel
theorem dX9_next_3 : decode cX9_next 3 = .ok (.invokestatic 36, 3) := by decide +kernel
theorem dX9_next_6 : decode cX9_next 6 = .ok (.ifCond .eq 5, 3) := by decide +kernel
theorem dX9_next_9 : decode cX9_next 9 = .ok (.iconst (-1), 1) := by decide +kernel
theorem dX9_next_10 : decode cX9_next 10 = .ok (.ireturn, 1) := by decide +kernel
theorem dX9_next_11 : decode cX9_next 11 = .ok (.aload_n 0, 1) := by decide +kernel
theorem dX9_next_12 : decode cX9_next 12 = .ok (.getfield 10, 3) := by decide +kernel
theorem dX9_next_15 : decode cX9_next 15 = .ok (.getfield 77, 3) := by decide +kernel
theorem dX9_next_18 : decode cX9_next 18 = .ok (.invokevirtual 94, 3) := by decide +kernel
theorem dX9_next_21 : decode cX9_next 21 = .ok (.istore_n 2, 1) := by decide +kernel
theorem dX9_next_22 : decode cX9_next 22 = .ok (.iconst 0, 1) := by decide +kernel
theorem dX9_next_23 : decode cX9_next 23 = .ok (.istore_n 3, 1) := by decide +kernel
theorem dX9_next_24 : decode cX9_next 24 = .ok (.iload_n 3, 1) := by decide +kernel
theorem dX9_next_25 : decode cX9_next 25 = .ok (.iload_n 2, 1) := by decide +kernel
theorem dX9_next_26 : decode cX9_next 26 = .ok (.if_icmp .ge 51, 3) := by decide +kernel
theorem dX9_next_29 : decode cX9_next 29 = .ok (.aload_n 0, 1) := by decide +kernel
theorem dX9_next_30 : decode cX9_next 30 = .ok (.getfield 10, 3) := by decide +kernel
theorem dX9_next_33 : decode cX9_next 33 = .ok (.getfield 77, 3) := by decide +kernel
theorem dX9_next_36 : decode cX9_next 36 = .ok (.aload_n 0, 1) := by decide +kernel
theorem dX9_next_37 : decode cX9_next 37 = .ok (.getfield 10, 3) := by decide +kernel
theorem dX9_next_40 : decode cX9_next 40 = .ok (.getfield 107, 3) := by decide +kernel
theorem dX9_next_43 : decode cX9_next 43 = .ok (.iload_n 3, 1) := by decide +kernel
theorem dX9_next_44 : decode cX9_next 44 = .ok (.iadd, 1) := by decide +kernel
theorem dX9_next_45 : decode cX9_next 45 = .ok (.invokevirtual 111, 3) := by decide +kernel
theorem dX9_next_48 : decode cX9_next 48 = .ok (.iload_n 1, 1) := by decide +kernel
theorem dX9_next_49 : decode cX9_next 49 = .ok (.iconst 1, 1) := by decide +kernel
theorem dX9_next_50 : decode cX9_next 50 = .ok (.if_icmp .ne 7, 3) := by decide +kernel
theorem dX9_next_53 : decode cX9_next 53 = .ok (.iconst 1, 1) := by decide +kernel
theorem dX9_next_54 : decode cX9_next 54 = .ok (.goto 4, 3) := by decide +kernel
theorem dX9_next_57 : decode cX9_next 57 = .ok (.iconst 0, 1) := by decide +kernel
theorem dX9_next_58 : decode cX9_next 58 = .ok (.if_icmp .ne 13, 3) := by decide +kernel
theorem dX9_next_61 : decode cX9_next 61 = .ok (.aload_n 0, 1) := by decide +kernel
theorem dX9_next_62 : decode cX9_next 62 = .ok (.getfield 10, 3) := by decide +kernel
theorem dX9_next_65 : decode cX9_next 65 = .ok (.getfield 107, 3) := by decide +kernel
theorem dX9_next_68 : decode cX9_next 68 = .ok (.iload_n 3, 1) := by decide +kernel
theorem dX9_next_69 : decode cX9_next 69 = .ok (.iadd, 1) := by decide +kernel
theorem dX9_next_70 : decode cX9_next 70 = .ok (.ireturn, 1) := by decide +kernel
theorem dX9_next_71 : decode cX9_next 71 = .ok (.iinc 3 1, 3) := by decide +kernel
theorem dX9_next_74 : decode cX9_next 74 = .ok (.goto (-50), 3) := by decide +kernel
theorem dX9_next_77 : decode cX9_next 77 = .ok (.bipush (-4), 2) := by decide +kernel
theorem dX9_next_79 : decode cX9_next 79 = .ok (.ireturn, 1) := by decide +kernel
set_option maxRecDepth 20000 in
theorem ggX9_setChanger_X9_isOutside : GoodIn wsX9_setChanger wsX9_isOutside := goodIn_r _ [6] (by decide +kernel) (by decide +kernel)
set_option maxRecDepth 20000 in
theorem gX9_setChanger_X9_isOutside : GoodIn wsX9_setChanger (va_wsS RX9 36 yX9_isOutside wsX9_isOutside) := goodIn_app (goodIn_of _ (by decide +kernel)) ggX9_setChanger_X9_isOutside
set_option maxRecDepth 20000 in
theorem ggX9_setChanger_X5_keep : GoodIn wsX9_setChanger wsX5_keep := goodIn_r _ [11, 12, 13, 14, 15, 16, 17, 18, 19, 20, 21, 22, 23, 24, 25, 26, 27, 28, 29, 30, 31, 32, 33, 34, 35, 36, 37, 38, 39, 40, 41, 42, 43, 44, 45, 46, 47, 48, 49, 50, 51, 52, 53, 54, 55, 56, 57, 58, 59, 60, 61, 62, 63, 64, 65, 66, 67, 68, 69, 70, 71, 72, 73, 74, 75, 109, 110, 111, 101, 102, 103, 104, 105, 106, 107, 108, 112, 113, 114, 115, 116, 117, 118, 119, 120, 121, 122, 123, 124, 125, 126, 127, 128, 129, 130, 131] (by decide +kernel) (by decide +kernel)
set_option maxRecDepth 20000 in
theorem gX9_setChanger_X5_keep : GoodIn wsX9_setChanger (wsV RX9 40 RX5 yX5_keep wsX5_keep) := goodIn_app (goodIn_of _ (by decide +kernel)) ggX9_setChanger_X5_keep
set_option maxRecDepth 20000 in
theorem ggX9_setChanger_X1_lamps : GoodIn wsX9_setChanger wsX1_lamps := goodIn_r _ [79, 80, 81, 82, 53, 83, 57, 84, 85, 86, 118, 119, 120, 121, 122, 123, 124] (by decide +kernel) (by decide +kernel)
set_option maxRecDepth 20000 in
theorem gX9_setChanger_X1_lamps : GoodIn wsX9_setChanger (wsV RX9 128 RX1 yX1_lamps wsX1_lamps) := goodIn_app (goodIn_of _ (by decide +kernel)) ggX9_setChanger_X1_lamps
set_option maxRecDepth 20000 in
theorem ggX9_setChanger_X1_renew : GoodIn wsX9_setChanger wsX1_renew := goodIn_r _ [90, 59, 60, 62, 91, 92, 93, 53, 94, 55, 57, 58, 84, 85, 86, 118, 119, 120, 121, 122, 123, 124] (by decide +kernel) (by decide +kernel)
set_option maxRecDepth 20000 in
theorem gX9_setChanger_X1_renew : GoodIn wsX9_setChanger (wsV RX9 133 RX1 yX1_renew wsX1_renew) := goodIn_app (goodIn_of _ (by decide +kernel)) ggX9_setChanger_X1_renew
theorem dX9_setChanger_0 : decode cX9_setChanger 0 = .ok (.iload_n 1, 1) := by decide +kernel
theorem dX9_setChanger_1 : decode cX9_setChanger 1 = .ok (.iconst 0, 1) := by decide +kernel
theorem dX9_setChanger_2 : decode cX9_setChanger 2 = .ok (.iconst 1, 1) := by decide +kernel
theorem dX9_setChanger_3 : decode cX9_setChanger 3 = .ok (.invokestatic 36, 3) := by decide +kernel
theorem dX9_setChanger_6 : decode cX9_setChanger 6 = .ok (.ifCond .eq 5, 3) := by decide +kernel
theorem dX9_setChanger_9 : decode cX9_setChanger 9 = .ok (.iconst (-1), 1) := by decide +kernel
theorem dX9_setChanger_10 : decode cX9_setChanger 10 = .ok (.ireturn, 1) := by decide +kernel
theorem dX9_setChanger_11 : decode cX9_setChanger 11 = .ok (.aload_n 0, 1) := by decide +kernel
theorem dX9_setChanger_12 : decode cX9_setChanger 12 = .ok (.getfield 25, 3) := by decide +kernel
theorem dX9_setChanger_15 : decode cX9_setChanger 15 = .ok (.aload_n 0, 1) := by decide +kernel
theorem dX9_setChanger_16 : decode cX9_setChanger 16 = .ok (.getfield 10, 3) := by decide +kernel
theorem dX9_setChanger_19 : decode cX9_setChanger 19 = .ok (.invokevirtual 40, 3) := by decide +kernel
theorem dX9_setChanger_22 : decode cX9_setChanger 22 = .ok (.aload_n 0, 1) := by decide +kernel
theorem dX9_setChanger_23 : decode cX9_setChanger 23 = .ok (.getfield 10, 3) := by decide +kernel
theorem dX9_setChanger_26 : decode cX9_setChanger 26 = .ok (.getfield 124, 3) := by decide +kernel
theorem dX9_setChanger_29 : decode cX9_setChanger 29 = .ok (.invokevirtual 128, 3) := by decide +kernel
theorem dX9_setChanger_32 : decode cX9_setChanger 32 = .ok (.istore_n 2, 1) := by decide +kernel
theorem dX9_setChanger_33 : decode cX9_setChanger 33 = .ok (.aload_n 0, 1) := by decide +kernel
theorem dX9_setChanger_34 : decode cX9_setChanger 34 = .ok (.getfield 10, 3) := by decide +kernel
theorem dX9_setChanger_37 : decode cX9_setChanger 37 = .ok (.getfield 124, 3) := by decide +kernel
theorem dX9_setChanger_40 : decode cX9_setChanger 40 = .ok (.iload_n 1, 1) := by decide +kernel
theorem dX9_setChanger_41 : decode cX9_setChanger 41 = .ok (.invokevirtual 133, 3) := by decide +kernel
theorem dX9_setChanger_44 : decode cX9_setChanger 44 = .ok (.iload_n 2, 1) := by decide +kernel
theorem dX9_setChanger_45 : decode cX9_setChanger 45 = .ok (.ireturn, 1) := by decide +kernel
set_option maxRecDepth 20000 in
theorem ggX9_addLamp_X9_isOutside : GoodIn wsX9_addLamp wsX9_isOutside := goodIn_r _ [6] (by decide +kernel) (by decide +kernel)
set_option maxRecDepth 20000 in
theorem gX9_addLamp_X9_isOutside : GoodIn wsX9_addLamp (va_wsS RX9 36 yX9_isOutside wsX9_isOutside) := goodIn_app (goodIn_of _ (by decide +kernel)) ggX9_addLamp_X9_isOutside
set_option maxRecDepth 20000 in
theorem ggX9_addLamp_X1_lowestEmpty : GoodIn wsX9_addLamp wsX1_lowestEmpty := goodIn_r _ [11, 12, 13, 14, 10, 15, 16, 17, 18, 19, 105, 106, 107, 108, 109, 110, 111] (by decide +kernel) (by decide +kernel)
set_option maxRecDepth 20000 in
theorem gX9_addLamp_X1_lowestEmpty : GoodIn wsX9_addLamp (wsV RX9 139 RX1 yX1_lowestEmpty wsX1_lowestEmpty) := goodIn_app (goodIn_of _ (by decide +kernel)) ggX9_addLamp_X1_lowestEmpty
set_option maxRecDepth 20000 in
theorem ggX9_addLamp_X5_keep : GoodIn wsX9_addLamp wsX5_keep := goodIn_r _ [24, 25, 26, 27, 28, 29, 30, 31, 32, 33, 34, 35, 36, 37, 38, 39, 40, 41, 42, 43, 44, 45, 46, 47, 48, 49, 50, 51, 52, 53, 54, 55, 56, 57, 58, 59, 60, 61, 62, 63, 64, 65, 10, 66, 67, 68, 16, 69, 70, 71, 72, 73, 74, 75, 76, 77, 78, 79, 80, 81, 82, 83, 84, 85, 86, 112, 113, 114, 97, 98, 99, 100, 101, 102, 103, 104, 115, 116, 117, 118, 119, 120, 105, 106, 107, 108, 109, 110, 111, 121, 122, 123, 124, 125, 126, 127] (by decide +kernel) (by decide +kernel)
set_option maxRecDepth 20000 in
theorem gX9_addLamp_X5_keep : GoodIn wsX9_addLamp (wsV RX9 40 RX5 yX5_keep wsX5_keep) := goodIn_app (goodIn_of _ (by decide +kernel)) ggX9_addLamp_X5_keep
set_option maxRecDepth 20000 in
theorem ggX9_addLamp_X1_insert : GoodIn wsX9_addLamp wsX1_insert := goodIn_r _ [90, 67, 16, 69, 17, 18, 10, 19, 105, 106, 107, 108, 109, 110, 111] (by decide +kernel) (by decide +kernel)
set_option maxRecDepth 20000 in
theorem gX9_addLamp_X1_insert : GoodIn wsX9_addLamp (wsV RX9 142 RX1 yX1_insert wsX1_insert) := goodIn_app (goodIn_of _ (by decide +kernel)) ggX9_addLamp_X1_insert
theorem dX9_addLamp_0 : decode cX9_addLamp 0 = .ok (.iload_n 1, 1) := by decide +kernel
theorem dX9_addLamp_1 : decode cX9_addLamp 1 = .ok (.iconst 0, 1) := by decide +kernel
theorem dX9_addLamp_2 : decode cX9_addLamp 2 = .ok (.iconst 1, 1) := by decide +kernel
theorem dX9_addLamp_3 : decode cX9_addLamp 3 = .ok (.invokestatic 36, 3) := by decide +kernel
theorem dX9_addLamp_6 : decode cX9_addLamp 6 = .ok (.ifCond .ne 25, 3) := by decide +kernel
theorem dX9_addLamp_9 : decode cX9_addLamp 9 = .ok (.iload_n 2, 1) := by decide +kernel
theorem dX9_addLamp_10 : decode cX9_addLamp 10 = .ok (.iconst 1, 1) := by decide +kernel
theorem dX9_addLamp_11 : decode cX9_addLamp 11 = .ok (.sipush 2000, 3) := by decide +kernel
theorem dX9_addLamp_14 : decode cX9_addLamp 14 = .ok (.invokestatic 36, 3) := by decide +kernel
theorem dX9_addLamp_17 : decode cX9_addLamp 17 = .ok (.ifCond .ne 14, 3) := by decide +kernel
theorem dX9_addLamp_20 : decode cX9_addLamp 20 = .ok (.iload_n 3, 1) := by decide +kernel
theorem dX9_addLamp_21 : decode cX9_addLamp 21 = .ok (.iconst 1, 1) := by decide +kernel
theorem dX9_addLamp_22 : decode cX9_addLamp 22 = .ok (.sipush 5000, 3) := by decide +kernel
theorem dX9_addLamp_25 : decode cX9_addLamp 25 = .ok (.invokestatic 36, 3) := by decide +kernel
theorem dX9_addLamp_28 : decode cX9_addLamp 28 = .ok (.ifCond .eq 5, 3) := by decide +kernel
theorem dX9_addLamp_31 : decode cX9_addLamp 31 = .ok (.iconst (-1), 1) := by decide +kernel
theorem dX9_addLamp_32 : decode cX9_addLamp 32 = .ok (.ireturn, 1) := by decide +kernel
theorem dX9_addLamp_33 : decode cX9_addLamp 33 = .ok (.iload_n 1, 1) := by decide +kernel
theorem dX9_addLamp_34 : decode cX9_addLamp 34 = .ok (.aload_n 0, 1) := by decide +kernel
theorem dX9_addLamp_35 : decode cX9_addLamp 35 = .ok (.getfield 10, 3) := by decide +kernel
theorem dX9_addLamp_38 : decode cX9_addLamp 38 = .ok (.getfield 124, 3) := by decide +kernel
theorem dX9_addLamp_41 : decode cX9_addLamp 41 = .ok (.getfield 137, 3) := by decide +kernel
theorem dX9_addLamp_44 : decode cX9_addLamp 44 = .ok (.if_icmp .eq 6, 3) := by decide +kernel
theorem dX9_addLamp_47 : decode cX9_addLamp 47 = .ok (.bipush (-2), 2) := by decide +kernel
theorem dX9_addLamp_49 : decode cX9_addLamp 49 = .ok (.ireturn, 1) := by decide +kernel
theorem dX9_addLamp_50 : decode cX9_addLamp 50 = .ok (.aload_n 0, 1) := by decide +kernel
theorem dX9_addLamp_51 : decode cX9_addLamp 51 = .ok (.getfield 10, 3) := by decide +kernel
theorem dX9_addLamp_54 : decode cX9_addLamp 54 = .ok (.getfield 124, 3) := by decide +kernel
theorem dX9_addLamp_57 : decode cX9_addLamp 57 = .ok (.invokevirtual 139, 3) := by decide +kernel
theorem dX9_addLamp_60 : decode cX9_addLamp 60 = .ok (.istore 4, 2) := by decide +kernel
theorem dX9_addLamp_62 : decode cX9_addLamp 62 = .ok (.iload 4, 2) := by decide +kernel
theorem dX9_addLamp_64 : decode cX9_addLamp 64 = .ok (.iconst (-1), 1) := by decide +kernel
theorem dX9_addLamp_65 : decode cX9_addLamp 65 = .ok (.if_icmp .ne 6, 3) := by decide +kernel
theorem dX9_addLamp_68 : decode cX9_addLamp 68 = .ok (.bipush (-3), 2) := by decide +kernel
theorem dX9_addLamp_70 : decode cX9_addLamp 70 = .ok (.ireturn, 1) := by decide +kernel
theorem dX9_addLamp_71 : decode cX9_addLamp 71 = .ok (.aload_n 0, 1) := by decide +kernel
theorem dX9_addLamp_72 : decode cX9_addLamp 72 = .ok (.getfield 25, 3) := by decide +kernel
theorem dX9_addLamp_75 : decode cX9_addLamp 75 = .ok (.aload_n 0, 1) := by decide +kernel
theorem dX9_addLamp_76 : decode cX9_addLamp 76 = .ok (.getfield 10, 3) := by decide +kernel
theorem dX9_addLamp_79 : decode cX9_addLamp 79 = .ok (.invokevirtual 40, 3) := by decide +kernel
theorem dX9_addLamp_82 : decode cX9_addLamp 82 = .ok (.aload_n 0, 1) := by decide +kernel
theorem dX9_addLamp_83 : decode cX9_addLamp 83 = .ok (.getfield 10, 3) := by decide +kernel
theorem dX9_addLamp_86 : decode cX9_addLamp 86 = .ok (.getfield 124, 3) := by decide +kernel
theorem dX9_addLamp_89 : decode cX9_addLamp 89 = .ok (.iload 4, 2) := by decide +kernel
theorem dX9_addLamp_91 : decode cX9_addLamp 91 = .ok (.iload_n 2, 1) := by decide +kernel
theorem dX9_addLamp_92 : decode cX9_addLamp 92 = .ok (.iload_n 3, 1) := by decide +kernel
theorem dX9_addLamp_93 : decode cX9_addLamp 93 = .ok (.invokevirtual 142, 3) := by decide +kernel
theorem dX9_addLamp_96 : decode cX9_addLamp 96 = .ok (.iload 4, 2) := by decide +kernel
theorem dX9_addLamp_98 : decode cX9_addLamp 98 = .ok (.ireturn, 1) := by decide +kernel
set_option maxRecDepth 20000 in
theorem ggX9_takeLamp_X9_isOutside : GoodIn wsX9_takeLamp wsX9_isOutside := goodIn_r _ [6] (by decide +kernel) (by decide +kernel)
set_option maxRecDepth 20000 in
theorem gX9_takeLamp_X9_isOutside : GoodIn wsX9_takeLamp (va_wsS RX9 36 yX9_isOutside wsX9_isOutside) := goodIn_app (goodIn_of _ (by decide +kernel)) ggX9_takeLamp_X9_isOutside
set_option maxRecDepth 20000 in
theorem ggX9_takeLamp_X1_hasLamp : GoodIn wsX9_takeLamp wsX1_hasLamp := goodIn_r _ [11, 12, 13, 14, 10, 15, 105, 106, 107, 108, 109, 110, 111] (by decide +kernel) (by decide +kernel)
set_option maxRecDepth 20000 in
theorem gX9_takeLamp_X1_hasLamp : GoodIn wsX9_takeLamp (wsV RX9 146 RX1 yX1_hasLamp wsX1_hasLamp) := goodIn_app (goodIn_of _ (by decide +kernel)) ggX9_takeLamp_X1_hasLamp
set_option maxRecDepth 20000 in
theorem ggX9_takeLamp_X5_keep : GoodIn wsX9_takeLamp wsX5_keep := goodIn_r _ [20, 21, 22, 23, 24, 25, 26, 27, 28, 29, 30, 31, 32, 33, 34, 35, 36, 37, 38, 39, 40, 41, 42, 43, 44, 45, 46, 47, 48, 49, 50, 51, 52, 53, 54, 55, 56, 57, 58, 59, 60, 61, 10, 62, 63, 64, 12, 65, 66, 67, 68, 69, 70, 71, 72, 73, 74, 75, 76, 77, 78, 79, 80, 81, 82, 112, 113, 114, 97, 98, 99, 100, 101, 102, 103, 104, 115, 116, 117, 118, 119, 120, 105, 106, 107, 108, 109, 110, 111, 121, 122, 123, 124, 125, 126, 127] (by decide +kernel) (by decide +kernel)
set_option maxRecDepth 20000 in
theorem gX9_takeLamp_X5_keep : GoodIn wsX9_takeLamp (wsV RX9 40 RX5 yX5_keep wsX5_keep) := goodIn_app (goodIn_of _ (by decide +kernel)) ggX9_takeLamp_X5_keep
set_option maxRecDepth 20000 in
theorem ggX9_takeLamp_X1_useOf : GoodIn wsX9_takeLamp wsX1_useOf := goodIn_r _ [86, 65, 13, 14, 10, 15, 105, 106, 107, 108, 109, 110, 111] (by decide +kernel) (by decide +kernel)
set_option maxRecDepth 20000 in
theorem gX9_takeLamp_X1_useOf : GoodIn wsX9_takeLamp (wsV RX9 149 RX1 yX1_useOf wsX1_useOf) := goodIn_app (goodIn_of _ (by decide +kernel)) ggX9_takeLamp_X1_useOf
set_option maxRecDepth 20000 in
theorem ggX9_takeLamp_X1_insert : GoodIn wsX9_takeLamp wsX1_insert := goodIn_r _ [90, 63, 12, 65, 13, 14, 10, 15, 105, 106, 107, 108, 109, 110, 111] (by decide +kernel) (by decide +kernel)
set_option maxRecDepth 20000 in
theorem gX9_takeLamp_X1_insert : GoodIn wsX9_takeLamp (wsV RX9 142 RX1 yX1_insert wsX1_insert) := goodIn_app (goodIn_of _ (by decide +kernel)) ggX9_takeLamp_X1_insert
theorem dX9_takeLamp_0 : decode cX9_takeLamp 0 = .ok (.iload_n 1, 1) := by decide +kernel
theorem dX9_takeLamp_1 : decode cX9_takeLamp 1 = .ok (.iconst 0, 1) := by decide +kernel
theorem dX9_takeLamp_2 : decode cX9_takeLamp 2 = .ok (.iconst 5, 1) := by decide +kernel
theorem dX9_takeLamp_3 : decode cX9_takeLamp 3 = .ok (.invokestatic 36, 3) := by decide +kernel
theorem dX9_takeLamp_6 : decode cX9_takeLamp 6 = .ok (.ifCond .eq 5, 3) := by decide +kernel
theorem dX9_takeLamp_9 : decode cX9_takeLamp 9 = .ok (.iconst (-1), 1) := by decide +kernel
theorem dX9_takeLamp_10 : decode cX9_takeLamp 10 = .ok (.ireturn, 1) := by decide +kernel
theorem dX9_takeLamp_11 : decode cX9_takeLamp 11 = .ok (.aload_n 0, 1) := by decide +kernel
theorem dX9_takeLamp_12 : decode cX9_takeLamp 12 = .ok (.getfield 10, 3) := by decide +kernel
theorem dX9_takeLamp_15 : decode cX9_takeLamp 15 = .ok (.getfield 124, 3) := by decide +kernel
theorem dX9_takeLamp_18 : decode cX9_takeLamp 18 = .ok (.iload_n 1, 1) := by decide +kernel
theorem dX9_takeLamp_19 : decode cX9_takeLamp 19 = .ok (.invokevirtual 146, 3) := by decide +kernel
theorem dX9_takeLamp_22 : decode cX9_takeLamp 22 = .ok (.ifCond .ne 6, 3) := by decide +kernel
theorem dX9_takeLamp_25 : decode cX9_takeLamp 25 = .ok (.bipush (-4), 2) := by decide +kernel
theorem dX9_takeLamp_27 : decode cX9_takeLamp 27 = .ok (.ireturn, 1) := by decide +kernel
theorem dX9_takeLamp_28 : decode cX9_takeLamp 28 = .ok (.aload_n 0, 1) := by decide +kernel
theorem dX9_takeLamp_29 : decode cX9_takeLamp 29 = .ok (.getfield 25, 3) := by decide +kernel
theorem dX9_takeLamp_32 : decode cX9_takeLamp 32 = .ok (.aload_n 0, 1) := by decide +kernel
theorem dX9_takeLamp_33 : decode cX9_takeLamp 33 = .ok (.getfield 10, 3) := by decide +kernel
theorem dX9_takeLamp_36 : decode cX9_takeLamp 36 = .ok (.invokevirtual 40, 3) := by decide +kernel
theorem dX9_takeLamp_39 : decode cX9_takeLamp 39 = .ok (.aload_n 0, 1) := by decide +kernel
theorem dX9_takeLamp_40 : decode cX9_takeLamp 40 = .ok (.getfield 10, 3) := by decide +kernel
theorem dX9_takeLamp_43 : decode cX9_takeLamp 43 = .ok (.getfield 124, 3) := by decide +kernel
theorem dX9_takeLamp_46 : decode cX9_takeLamp 46 = .ok (.iload_n 1, 1) := by decide +kernel
theorem dX9_takeLamp_47 : decode cX9_takeLamp 47 = .ok (.invokevirtual 149, 3) := by decide +kernel
theorem dX9_takeLamp_50 : decode cX9_takeLamp 50 = .ok (.istore_n 2, 1) := by decide +kernel
theorem dX9_takeLamp_51 : decode cX9_takeLamp 51 = .ok (.aload_n 0, 1) := by decide +kernel
theorem dX9_takeLamp_52 : decode cX9_takeLamp 52 = .ok (.getfield 10, 3) := by decide +kernel
theorem dX9_takeLamp_55 : decode cX9_takeLamp 55 = .ok (.getfield 124, 3) := by decide +kernel
theorem dX9_takeLamp_58 : decode cX9_takeLamp 58 = .ok (.iload_n 1, 1) := by decide +kernel
theorem dX9_takeLamp_59 : decode cX9_takeLamp 59 = .ok (.iconst 0, 1) := by decide +kernel
theorem dX9_takeLamp_60 : decode cX9_takeLamp 60 = .ok (.iconst 0, 1) := by decide +kernel
theorem dX9_takeLamp_61 : decode cX9_takeLamp 61 = .ok (.invokevirtual 142, 3) := by decide +kernel
theorem dX9_takeLamp_64 : decode cX9_takeLamp 64 = .ok (.iload_n 2, 1) := by decide +kernel
theorem dX9_takeLamp_65 : decode cX9_takeLamp 65 = .ok (.ireturn, 1) := by decide +kernel
set_option maxRecDepth 20000 in
theorem ggX9_lamp_X9_isOutside : GoodIn wsX9_lamp wsX9_isOutside := goodIn_r _ [5] (by decide +kernel) (by decide +kernel)
set_option maxRecDepth 20000 in
theorem gX9_lamp_X9_isOutside : GoodIn wsX9_lamp (va_wsS RX9 36 yX9_isOutside wsX9_isOutside) := goodIn_app (goodIn_of _ (by decide +kernel)) ggX9_lamp_X9_isOutside
set_option maxRecDepth 20000 in
theorem ggX9_lamp_X1_hasLamp : GoodIn wsX9_lamp wsX1_hasLamp := goodIn_r _ [10, 11, 12, 13, 9, 14, 51, 52, 53, 54, 55, 56, 57] (by decide +kernel) (by decide +kernel)
set_option maxRecDepth 20000 in
theorem gX9_lamp_X1_hasLamp : GoodIn wsX9_lamp (wsV RX9 146 RX1 yX1_hasLamp wsX1_hasLamp) := goodIn_app (goodIn_of _ (by decide +kernel)) ggX9_lamp_X1_hasLamp
set_option maxRecDepth 20000 in
theorem ggX9_lamp_X1_intensityOf : GoodIn wsX9_lamp wsX1_intensityOf := goodIn_r _ [18, 19, 12, 13, 9, 14, 51, 52, 53, 54, 55, 56, 57] (by decide +kernel) (by decide +kernel)
set_option maxRecDepth 20000 in
theorem gX9_lamp_X1_intensityOf : GoodIn wsX9_lamp (wsV RX9 152 RX1 yX1_intensityOf wsX1_intensityOf) := goodIn_app (goodIn_of _ (by decide +kernel)) ggX9_lamp_X1_intensityOf
set_option maxRecDepth 20000 in
theorem ggX9_lamp_X1_lifeOf : GoodIn wsX9_lamp wsX1_lifeOf := goodIn_r _ [23, 11, 12, 13, 9, 14, 51, 52, 53, 54, 55, 56, 57] (by decide +kernel) (by decide +kernel)
set_option maxRecDepth 20000 in
theorem gX9_lamp_X1_lifeOf : GoodIn wsX9_lamp (wsV RX9 155 RX1 yX1_lifeOf wsX1_lifeOf) := goodIn_app (goodIn_of _ (by decide +kernel)) ggX9_lamp_X1_lifeOf
set_option maxRecDepth 20000 in
theorem ggX9_lamp_X1_useOf : GoodIn wsX9_lamp wsX1_useOf := goodIn_r _ [27, 28, 12, 13, 9, 14, 51, 52, 53, 54, 55, 56, 57] (by decide +kernel) (by decide +kernel)
set_option maxRecDepth 20000 in
theorem gX9_lamp_X1_useOf : GoodIn wsX9_lamp (wsV RX9 149 RX1 yX1_useOf wsX1_useOf) := goodIn_app (goodIn_of _ (by decide +kernel)) ggX9_lamp_X1_useOf
set_option maxRecDepth 20000 in
theorem ggX9_lamp_X1_brightnessOf : GoodIn wsX9_lamp wsX1_brightnessOf := goodIn_r _ [32, 11, 19, 28, 12, 13, 9, 14, 51, 52, 53, 54, 55, 56, 57] (by decide +kernel) (by decide +kernel)
set_option maxRecDepth 20000 in
theorem gX9_lamp_X1_brightnessOf : GoodIn wsX9_lamp (wsV RX9 158 RX1 yX1_brightnessOf wsX1_brightnessOf) := goodIn_app (goodIn_of _ (by decide +kernel)) ggX9_lamp_X1_brightnessOf
set_option maxRecDepth 20000 in
theorem ggX9_lamp_X1_canBurn : GoodIn wsX9_lamp wsX1_canBurn := goodIn_r _ [36, 28, 11, 12, 13, 9, 14, 51, 52, 53, 54, 55, 56, 57] (by decide +kernel) (by decide +kernel)
set_option maxRecDepth 20000 in
theorem gX9_lamp_X1_canBurn : GoodIn wsX9_lamp (wsV RX9 161 RX1 yX1_canBurn wsX1_canBurn) := goodIn_app (goodIn_of _ (by decide +kernel)) ggX9_lamp_X1_canBurn
theorem dX9_lamp_0 : decode cX9_lamp 0 = .ok (.iload_n 1, 1) := by decide +kernel
theorem dX9_lamp_1 : decode cX9_lamp 1 = .ok (.iconst 0, 1) := by decide +kernel
theorem dX9_lamp_2 : decode cX9_lamp 2 = .ok (.iconst 5, 1) := by decide +kernel
theorem dX9_lamp_3 : decode cX9_lamp 3 = .ok (.invokestatic 36, 3) := by decide +kernel
theorem dX9_lamp_6 : decode cX9_lamp 6 = .ok (.ifCond .ne 12, 3) := by decide +kernel
theorem dX9_lamp_9 : decode cX9_lamp 9 = .ok (.iload_n 2, 1) := by decide +kernel
theorem dX9_lamp_10 : decode cX9_lamp 10 = .ok (.iconst 0, 1) := by decide +kernel
theorem dX9_lamp_11 : decode cX9_lamp 11 = .ok (.iconst 5, 1) := by decide +kernel
theorem dX9_lamp_12 : decode cX9_lamp 12 = .ok (.invokestatic 36, 3) := by decide +kernel
theorem dX9_lamp_15 : decode cX9_lamp 15 = .ok (.ifCond .eq 5, 3) := by decide +kernel
theorem dX9_lamp_18 : decode cX9_lamp 18 = .ok (.iconst (-1), 1) := by decide +kernel
theorem dX9_lamp_19 : decode cX9_lamp 19 = .ok (.ireturn, 1) := by decide +kernel
theorem dX9_lamp_20 : decode cX9_lamp 20 = .ok (.aload_n 0, 1) := by decide +kernel
theorem dX9_lamp_21 : decode cX9_lamp 21 = .ok (.getfield 10, 3) := by decide +kernel
theorem dX9_lamp_24 : decode cX9_lamp 24 = .ok (.getfield 124, 3) := by decide +kernel
theorem dX9_lamp_27 : decode cX9_lamp 27 = .ok (.iload_n 1, 1) := by decide +kernel
theorem dX9_lamp_28 : decode cX9_lamp 28 = .ok (.invokevirtual 146, 3) := by decide +kernel
theorem dX9_lamp_31 : decode cX9_lamp 31 = .ok (.ifCond .ne 6, 3) := by decide +kernel
theorem dX9_lamp_34 : decode cX9_lamp 34 = .ok (.bipush (-4), 2) := by decide +kernel
theorem dX9_lamp_36 : decode cX9_lamp 36 = .ok (.ireturn, 1) := by decide +kernel
theorem dX9_lamp_37 : decode cX9_lamp 37 = .ok (.iload_n 2, 1) := by decide +kernel
theorem dX9_lamp_38 : decode cX9_lamp 38 = .ok (.tableswitch 93 0 4 #[34, 45, 57, 69, 81], 34) := by decide +kernel
theorem dX9_lamp_72 : decode cX9_lamp 72 = .ok (.aload_n 0, 1) := by decide +kernel
theorem dX9_lamp_73 : decode cX9_lamp 73 = .ok (.getfield 10, 3) := by decide +kernel
theorem dX9_lamp_76 : decode cX9_lamp 76 = .ok (.getfield 124, 3) := by decide +kernel
theorem dX9_lamp_79 : decode cX9_lamp 79 = .ok (.getfield 137, 3) := by decide +kernel
theorem dX9_lamp_82 : decode cX9_lamp 82 = .ok (.ireturn, 1) := by decide +kernel
theorem dX9_lamp_83 : decode cX9_lamp 83 = .ok (.aload_n 0, 1) := by decide +kernel
theorem dX9_lamp_84 : decode cX9_lamp 84 = .ok (.getfield 10, 3) := by decide +kernel
theorem dX9_lamp_87 : decode cX9_lamp 87 = .ok (.getfield 124, 3) := by decide +kernel
theorem dX9_lamp_90 : decode cX9_lamp 90 = .ok (.iload_n 1, 1) := by decide +kernel
theorem dX9_lamp_91 : decode cX9_lamp 91 = .ok (.invokevirtual 152, 3) := by decide +kernel
theorem dX9_lamp_94 : decode cX9_lamp 94 = .ok (.ireturn, 1) := by decide +kernel
theorem dX9_lamp_95 : decode cX9_lamp 95 = .ok (.aload_n 0, 1) := by decide +kernel
theorem dX9_lamp_96 : decode cX9_lamp 96 = .ok (.getfield 10, 3) := by decide +kernel
theorem dX9_lamp_99 : decode cX9_lamp 99 = .ok (.getfield 124, 3) := by decide +kernel
theorem dX9_lamp_102 : decode cX9_lamp 102 = .ok (.iload_n 1, 1) := by decide +kernel
theorem dX9_lamp_103 : decode cX9_lamp 103 = .ok (.invokevirtual 155, 3) := by decide +kernel
theorem dX9_lamp_106 : decode cX9_lamp 106 = .ok (.ireturn, 1) := by decide +kernel
theorem dX9_lamp_107 : decode cX9_lamp 107 = .ok (.aload_n 0, 1) := by decide +kernel
theorem dX9_lamp_108 : decode cX9_lamp 108 = .ok (.getfield 10, 3) := by decide +kernel
theorem dX9_lamp_111 : decode cX9_lamp 111 = .ok (.getfield 124, 3) := by decide +kernel
theorem dX9_lamp_114 : decode cX9_lamp 114 = .ok (.iload_n 1, 1) := by decide +kernel
theorem dX9_lamp_115 : decode cX9_lamp 115 = .ok (.invokevirtual 149, 3) := by decide +kernel
theorem dX9_lamp_118 : decode cX9_lamp 118 = .ok (.ireturn, 1) := by decide +kernel
theorem dX9_lamp_119 : decode cX9_lamp 119 = .ok (.aload_n 0, 1) := by decide +kernel
theorem dX9_lamp_120 : decode cX9_lamp 120 = .ok (.getfield 10, 3) := by decide +kernel
theorem dX9_lamp_123 : decode cX9_lamp 123 = .ok (.getfield 124, 3) := by decide +kernel
theorem dX9_lamp_126 : decode cX9_lamp 126 = .ok (.iload_n 1, 1) := by decide +kernel
theorem dX9_lamp_127 : decode cX9_lamp 127 = .ok (.invokevirtual 158, 3) := by decide +kernel
theorem dX9_lamp_130 : decode cX9_lamp 130 = .ok (.ireturn, 1) := by decide +kernel
theorem dX9_lamp_131 : decode cX9_lamp 131 = .ok (.aload_n 0, 1) := by decide +kernel
theorem dX9_lamp_132 : decode cX9_lamp 132 = .ok (.getfield 10, 3) := by decide +kernel
theorem dX9_lamp_135 : decode cX9_lamp 135 = .ok (.getfield 124, 3) := by decide +kernel
theorem dX9_lamp_138 : decode cX9_lamp 138 = .ok (.iload_n 1, 1) := by decide +kernel
theorem dX9_lamp_139 : decode cX9_lamp 139 = .ok (.invokevirtual 161, 3) := by decide +kernel
theorem dX9_lamp_142 : decode cX9_lamp 142 = .ok (.ifCond .eq 7, 3) := by decide +kernel
theorem dX9_lamp_145 : decode cX9_lamp 145 = .ok (.iconst 0, 1) := by decide +kernel
theorem dX9_lamp_146 : decode cX9_lamp 146 = .ok (.goto 4, 3) := by decide +kernel
theorem dX9_lamp_149 : decode cX9_lamp 149 = .ok (.iconst 1, 1) := by decide +kernel
theorem dX9_lamp_150 : decode cX9_lamp 150 = .ok (.ireturn, 1) := by decide +kernel
set_option maxRecDepth 20000 in
theorem ggX9_set_X9_isOutside : GoodIn wsX9_set wsX9_isOutside := goodIn_r _ [6] (by decide +kernel) (by decide +kernel)
set_option maxRecDepth 20000 in
theorem gX9_set_X9_isOutside : GoodIn wsX9_set (va_wsS RX9 36 yX9_isOutside wsX9_isOutside) := goodIn_app (goodIn_of _ (by decide +kernel)) ggX9_set_X9_isOutside
set_option maxRecDepth 20000 in
theorem ggX9_set_X5_keep : GoodIn wsX9_set wsX5_keep := goodIn_r _ [11, 12, 13, 14, 15, 16, 17, 18, 19, 20, 21, 22, 23, 24, 25, 26, 27, 28, 29, 30, 31, 32, 33, 34, 35, 36, 37, 38, 39, 40, 41, 42, 43, 44, 45, 46, 47, 48, 49, 50, 51, 52, 53, 54, 55, 56, 57, 58, 59, 60, 61, 62, 63, 64, 65, 66, 67, 68, 69, 70, 71, 72, 73, 74, 75, 97, 98, 99, 82, 83, 84, 85, 86, 87, 88, 89, 100, 101, 102, 103, 104, 105, 90, 91, 92, 93, 94, 95, 96, 106, 107, 108, 109, 110, 111, 112] (by decide +kernel) (by decide +kernel)
set_option maxRecDepth 20000 in
theorem gX9_set_X5_keep : GoodIn wsX9_set (wsV RX9 40 RX5 yX5_keep wsX5_keep) := goodIn_app (goodIn_of _ (by decide +kernel)) ggX9_set_X5_keep
theorem dX9_set_0 : decode cX9_set 0 = .ok (.iload_n 1, 1) := by decide +kernel
theorem dX9_set_1 : decode cX9_set 1 = .ok (.ifCond .ne 48, 3) := by decide +kernel
theorem dX9_set_4 : decode cX9_set 4 = .ok (.iload_n 2, 1) := by decide +kernel
theorem dX9_set_5 : decode cX9_set 5 = .ok (.iconst 0, 1) := by decide +kernel
theorem dX9_set_6 : decode cX9_set 6 = .ok (.bipush 50, 2) := by decide +kernel
theorem dX9_set_8 : decode cX9_set 8 = .ok (.invokestatic 36, 3) := by decide +kernel
theorem dX9_set_11 : decode cX9_set 11 = .ok (.ifCond .ne 38, 3) := by decide +kernel
theorem dX9_set_14 : decode cX9_set 14 = .ok (.aload_n 0, 1) := by decide +kernel
theorem dX9_set_15 : decode cX9_set 15 = .ok (.getfield 25, 3) := by decide +kernel
theorem dX9_set_18 : decode cX9_set 18 = .ok (.aload_n 0, 1) := by decide +kernel
theorem dX9_set_19 : decode cX9_set 19 = .ok (.getfield 10, 3) := by decide +kernel
theorem dX9_set_22 : decode cX9_set 22 = .ok (.invokevirtual 40, 3) := by decide +kernel
theorem dX9_set_25 : decode cX9_set 25 = .ok (.aload_n 0, 1) := by decide +kernel
theorem dX9_set_26 : decode cX9_set 26 = .ok (.getfield 10, 3) := by decide +kernel
theorem dX9_set_29 : decode cX9_set 29 = .ok (.getfield 124, 3) := by decide +kernel
theorem dX9_set_32 : decode cX9_set 32 = .ok (.getfield 164, 3) := by decide +kernel
theorem dX9_set_35 : decode cX9_set 35 = .ok (.istore_n 3, 1) := by decide +kernel
theorem dX9_set_36 : decode cX9_set 36 = .ok (.aload_n 0, 1) := by decide +kernel
theorem dX9_set_37 : decode cX9_set 37 = .ok (.getfield 10, 3) := by decide +kernel
theorem dX9_set_40 : decode cX9_set 40 = .ok (.getfield 124, 3) := by decide +kernel
theorem dX9_set_43 : decode cX9_set 43 = .ok (.iload_n 2, 1) := by decide +kernel
theorem dX9_set_44 : decode cX9_set 44 = .ok (.putfield 164, 3) := by decide +kernel
theorem dX9_set_47 : decode cX9_set 47 = .ok (.iload_n 3, 1) := by decide +kernel
theorem dX9_set_48 : decode cX9_set 48 = .ok (.ireturn, 1) := by decide +kernel
theorem dX9_set_49 : decode cX9_set 49 = .ok (.iload_n 1, 1) := by decide +kernel
theorem dX9_set_50 : decode cX9_set 50 = .ok (.iconst 1, 1) := by decide +kernel
theorem dX9_set_51 : decode cX9_set 51 = .ok (.if_icmp .ne 42, 3) := by decide +kernel
theorem dX9_set_54 : decode cX9_set 54 = .ok (.iload_n 2, 1) := by decide +kernel
theorem dX9_set_55 : decode cX9_set 55 = .ok (.iconst 1, 1) := by decide +kernel
theorem dX9_set_56 : decode cX9_set 56 = .ok (.bipush 100, 2) := by decide +kernel
theorem dX9_set_58 : decode cX9_set 58 = .ok (.invokestatic 36, 3) := by decide +kernel
theorem dX9_set_61 : decode cX9_set 61 = .ok (.ifCond .ne 32, 3) := by decide +kernel
theorem dX9_set_64 : decode cX9_set 64 = .ok (.aload_n 0, 1) := by decide +kernel
theorem dX9_set_65 : decode cX9_set 65 = .ok (.getfield 25, 3) := by decide +kernel
theorem dX9_set_68 : decode cX9_set 68 = .ok (.aload_n 0, 1) := by decide +kernel
theorem dX9_set_69 : decode cX9_set 69 = .ok (.getfield 10, 3) := by decide +kernel
theorem dX9_set_72 : decode cX9_set 72 = .ok (.invokevirtual 40, 3) := by decide +kernel
theorem dX9_set_75 : decode cX9_set 75 = .ok (.aload_n 0, 1) := by decide +kernel
theorem dX9_set_76 : decode cX9_set 76 = .ok (.getfield 10, 3) := by decide +kernel
theorem dX9_set_79 : decode cX9_set 79 = .ok (.getfield 167, 3) := by decide +kernel
theorem dX9_set_82 : decode cX9_set 82 = .ok (.istore_n 3, 1) := by decide +kernel
theorem dX9_set_83 : decode cX9_set 83 = .ok (.aload_n 0, 1) := by decide +kernel
theorem dX9_set_84 : decode cX9_set 84 = .ok (.getfield 10, 3) := by decide +kernel
theorem dX9_set_87 : decode cX9_set 87 = .ok (.iload_n 2, 1) := by decide +kernel
theorem dX9_set_88 : decode cX9_set 88 = .ok (.putfield 167, 3) := by decide +kernel
theorem dX9_set_91 : decode cX9_set 91 = .ok (.iload_n 3, 1) := by decide +kernel
theorem dX9_set_92 : decode cX9_set 92 = .ok (.ireturn, 1) := by decide +kernel
theorem dX9_set_93 : decode cX9_set 93 = .ok (.iconst (-1), 1) := by decide +kernel
theorem dX9_set_94 : decode cX9_set 94 = .ok (.ireturn, 1) := by decide +kernel
set_option maxRecDepth 20000 in
theorem ggX9_rangeBits_X9_isOutside : GoodIn wsX9_rangeBits wsX9_isOutside := goodIn_r _ [5] (by decide +kernel) (by decide +kernel)
set_option maxRecDepth 20000 in
theorem gX9_rangeBits_X9_isOutside : GoodIn wsX9_rangeBits (va_wsS RX9 36 yX9_isOutside wsX9_isOutside) := goodIn_app (goodIn_of _ (by decide +kernel)) ggX9_rangeBits_X9_isOutside
set_option maxRecDepth 20000 in
theorem ggX9_rangeBits_X7_rangeOf : GoodIn wsX9_rangeBits wsX7_rangeOf := goodIn_r _ [10, 11, 12, 13, 14, 15, 16, 17, 18, 19, 20, 21, 22, 23, 24, 25, 26, 27, 9, 28, 43, 44, 45, 46, 47, 48, 49, 50, 51, 52, 53, 54, 55, 56, 57] (by decide +kernel) (by decide +kernel)
set_option maxRecDepth 20000 in
theorem gX9_rangeBits_X7_rangeOf : GoodIn wsX9_rangeBits (wsV RX9 170 RX7 yX7_rangeOf wsX7_rangeOf) := goodIn_app (goodIn_of _ (by decide +kernel)) ggX9_rangeBits_X7_rangeOf
set_option maxRecDepth 20000 in
theorem ggX9_rangeBits_X0_ofFloat : GoodIn wsX9_rangeBits wsX0_ofFloat := goodIn_r _ [32, 33, 34, 31, 35, 36] (by decide +kernel) (by decide +kernel)
set_option maxRecDepth 20000 in
theorem gX9_rangeBits_X0_ofFloat : GoodIn wsX9_rangeBits (va_wsS RX9 174 yX0_ofFloat wsX0_ofFloat) := goodIn_app (goodIn_of _ (by decide +kernel)) ggX9_rangeBits_X0_ofFloat
theorem dX9_rangeBits_0 : decode cX9_rangeBits 0 = .ok (.iload_n 1, 1) := by decide +kernel
theorem dX9_rangeBits_1 : decode cX9_rangeBits 1 = .ok (.iconst 0, 1) := by decide +kernel
theorem dX9_rangeBits_2 : decode cX9_rangeBits 2 = .ok (.iconst 3, 1) := by decide +kernel
theorem dX9_rangeBits_3 : decode cX9_rangeBits 3 = .ok (.invokestatic 36, 3) := by decide +kernel
theorem dX9_rangeBits_6 : decode cX9_rangeBits 6 = .ok (.ifCond .eq 5, 3) := by decide +kernel
theorem dX9_rangeBits_9 : decode cX9_rangeBits 9 = .ok (.iconst (-1), 1) := by decide +kernel
theorem dX9_rangeBits_10 : decode cX9_rangeBits 10 = .ok (.ireturn, 1) := by decide +kernel
theorem dX9_rangeBits_11 : decode cX9_rangeBits 11 = .ok (.aload_n 0, 1) := by decide +kernel
theorem dX9_rangeBits_12 : decode cX9_rangeBits 12 = .ok (.getfield 10, 3) := by decide +kernel
theorem dX9_rangeBits_15 : decode cX9_rangeBits 15 = .ok (.iload_n 1, 1) := by decide +kernel
theorem dX9_rangeBits_16 : decode cX9_rangeBits 16 = .ok (.invokevirtual 170, 3) := by decide +kernel
theorem dX9_rangeBits_19 : decode cX9_rangeBits 19 = .ok (.invokestatic 174, 3) := by decide +kernel
theorem dX9_rangeBits_22 : decode cX9_rangeBits 22 = .ok (.ireturn, 1) := by decide +kernel
set_option maxRecDepth 20000 in
theorem ggX9_advance_X9_isOutside : GoodIn wsX9_advance wsX9_isOutside := goodIn_r _ [7] (by decide +kernel) (by decide +kernel)
set_option maxRecDepth 20000 in
theorem gX9_advance_X9_isOutside : GoodIn wsX9_advance (va_wsS RX9 36 yX9_isOutside wsX9_isOutside) := goodIn_app (goodIn_of _ (by decide +kernel)) ggX9_advance_X9_isOutside
set_option maxRecDepth 20000 in
theorem ggX9_advance_X5_keep : GoodIn wsX9_advance wsX5_keep := goodIn_r _ [12, 13, 14, 15, 16, 17, 18, 19, 20, 21, 22, 23, 24, 25, 26, 27, 28, 29, 30, 31, 32, 33, 34, 35, 36, 37, 38, 39, 40, 41, 42, 43, 44, 45, 46, 47, 48, 49, 50, 51, 52, 53, 54, 55, 56, 57, 58, 59, 60, 61, 62, 63, 64, 65, 66, 67, 68, 69, 70, 71, 72, 73, 74, 75, 76, 118, 119, 120, 110, 111, 112, 113, 114, 115, 116, 117, 121, 122, 123, 124, 125, 126, 127, 128, 129, 130, 131, 132, 133, 134, 135, 136, 137, 138, 139, 140] (by decide +kernel) (by decide +kernel)
set_option maxRecDepth 20000 in
theorem gX9_advance_X5_keep : GoodIn wsX9_advance (wsV RX9 40 RX5 yX5_keep wsX5_keep) := goodIn_app (goodIn_of _ (by decide +kernel)) ggX9_advance_X5_keep
set_option maxRecDepth 20000 in
theorem ggX9_advance_X7_goOn : GoodIn wsX9_advance wsX7_goOn := goodIn_r _ [80, 23, 32, 30, 22, 25, 81, 82, 83, 54, 84, 63, 61, 62, 85, 86, 87, 88, 59, 58, 89, 90, 91, 92, 93, 94, 43, 95, 48, 45, 47, 96, 97, 98, 99, 49, 50, 100, 101, 102, 103, 60, 110, 111, 112, 113, 114, 115, 116, 117, 127, 128, 129, 130, 131, 132, 133, 122, 123, 124, 125, 126] (by decide +kernel) (by decide +kernel)
set_option maxRecDepth 20000 in
theorem gX9_advance_X7_goOn : GoodIn wsX9_advance (wsV RX9 179 RX7 yX7_goOn wsX7_goOn) := goodIn_app (goodIn_of _ (by decide +kernel)) ggX9_advance_X7_goOn
theorem dX9_advance_0 : decode cX9_advance 0 = .ok (.iload_n 1, 1) := by decide +kernel
theorem dX9_advance_1 : decode cX9_advance 1 = .ok (.iconst 1, 1) := by decide +kernel
theorem dX9_advance_2 : decode cX9_advance 2 = .ok (.sipush 2000, 3) := by decide +kernel
theorem dX9_advance_5 : decode cX9_advance 5 = .ok (.invokestatic 36, 3) := by decide +kernel
theorem dX9_advance_8 : decode cX9_advance 8 = .ok (.ifCond .eq 5, 3) := by decide +kernel
theorem dX9_advance_11 : decode cX9_advance 11 = .ok (.iconst (-1), 1) := by decide +kernel
theorem dX9_advance_12 : decode cX9_advance 12 = .ok (.ireturn, 1) := by decide +kernel
theorem dX9_advance_13 : decode cX9_advance 13 = .ok (.iload_n 1, 1) := by decide +kernel
theorem dX9_advance_14 : decode cX9_advance 14 = .ok (.ldc 178, 2) := by decide +kernel
theorem dX9_advance_16 : decode cX9_advance 16 = .ok (.aload_n 0, 1) := by decide +kernel
theorem dX9_advance_17 : decode cX9_advance 17 = .ok (.getfield 10, 3) := by decide +kernel
theorem dX9_advance_20 : decode cX9_advance 20 = .ok (.getfield 107, 3) := by decide +kernel
theorem dX9_advance_23 : decode cX9_advance 23 = .ok (.isub, 1) := by decide +kernel
theorem dX9_advance_24 : decode cX9_advance 24 = .ok (.if_icmp .le 6, 3) := by decide +kernel
theorem dX9_advance_27 : decode cX9_advance 27 = .ok (.bipush (-3), 2) := by decide +kernel
theorem dX9_advance_29 : decode cX9_advance 29 = .ok (.ireturn, 1) := by decide +kernel
theorem dX9_advance_30 : decode cX9_advance 30 = .ok (.aload_n 0, 1) := by decide +kernel
theorem dX9_advance_31 : decode cX9_advance 31 = .ok (.getfield 25, 3) := by decide +kernel
theorem dX9_advance_34 : decode cX9_advance 34 = .ok (.aload_n 0, 1) := by decide +kernel
theorem dX9_advance_35 : decode cX9_advance 35 = .ok (.getfield 10, 3) := by decide +kernel
theorem dX9_advance_38 : decode cX9_advance 38 = .ok (.invokevirtual 40, 3) := by decide +kernel
theorem dX9_advance_41 : decode cX9_advance 41 = .ok (.iconst 0, 1) := by decide +kernel
theorem dX9_advance_42 : decode cX9_advance 42 = .ok (.istore_n 2, 1) := by decide +kernel
theorem dX9_advance_43 : decode cX9_advance 43 = .ok (.iconst 0, 1) := by decide +kernel
theorem dX9_advance_44 : decode cX9_advance 44 = .ok (.istore_n 3, 1) := by decide +kernel
theorem dX9_advance_45 : decode cX9_advance 45 = .ok (.iload_n 3, 1) := by decide +kernel
theorem dX9_advance_46 : decode cX9_advance 46 = .ok (.iload_n 1, 1) := by decide +kernel
theorem dX9_advance_47 : decode cX9_advance 47 = .ok (.if_icmp .ge 22, 3) := by decide +kernel
theorem dX9_advance_50 : decode cX9_advance 50 = .ok (.aload_n 0, 1) := by decide +kernel
theorem dX9_advance_51 : decode cX9_advance 51 = .ok (.getfield 10, 3) := by decide +kernel
theorem dX9_advance_54 : decode cX9_advance 54 = .ok (.invokevirtual 179, 3) := by decide +kernel
theorem dX9_advance_57 : decode cX9_advance 57 = .ok (.ifCond .ne 6, 3) := by decide +kernel
theorem dX9_advance_60 : decode cX9_advance 60 = .ok (.iinc 2 1, 3) := by decide +kernel
theorem dX9_advance_63 : decode cX9_advance 63 = .ok (.iinc 3 1, 3) := by decide +kernel
theorem dX9_advance_66 : decode cX9_advance 66 = .ok (.goto (-21), 3) := by decide +kernel
theorem dX9_advance_69 : decode cX9_advance 69 = .ok (.iload_n 2, 1) := by decide +kernel
theorem dX9_advance_70 : decode cX9_advance 70 = .ok (.ireturn, 1) := by decide +kernel
set_option maxRecDepth 20000 in
theorem ggX9_account_X7_ticksOf : GoodIn wsX9_account wsX7_ticksOf := goodIn_r _ [6, 7, 14, 15, 16, 17, 18, 19, 20, 21] (by decide +kernel) (by decide +kernel)
set_option maxRecDepth 20000 in
theorem gX9_account_X7_ticksOf : GoodIn wsX9_account (wsV RX9 182 RX7 yX7_ticksOf wsX7_ticksOf) := goodIn_app (goodIn_of _ (by decide +kernel)) ggX9_account_X7_ticksOf
theorem dX9_account_0 : decode cX9_account 0 = .ok (.iload_n 1, 1) := by decide +kernel
theorem dX9_account_1 : decode cX9_account 1 = .ok (.tableswitch 121 0 7 #[47, 55, 64, 73, 82, 91, 99, 110], 47) := by decide +kernel
theorem dX9_account_48 : decode cX9_account 48 = .ok (.aload_n 0, 1) := by decide +kernel
theorem dX9_account_49 : decode cX9_account 49 = .ok (.getfield 10, 3) := by decide +kernel
theorem dX9_account_52 : decode cX9_account 52 = .ok (.getfield 107, 3) := by decide +kernel
theorem dX9_account_55 : decode cX9_account 55 = .ok (.ireturn, 1) := by decide +kernel
theorem dX9_account_56 : decode cX9_account 56 = .ok (.aload_n 0, 1) := by decide +kernel
theorem dX9_account_57 : decode cX9_account 57 = .ok (.getfield 10, 3) := by decide +kernel
theorem dX9_account_60 : decode cX9_account 60 = .ok (.iconst 0, 1) := by decide +kernel
theorem dX9_account_61 : decode cX9_account 61 = .ok (.invokevirtual 182, 3) := by decide +kernel
theorem dX9_account_64 : decode cX9_account 64 = .ok (.ireturn, 1) := by decide +kernel
theorem dX9_account_65 : decode cX9_account 65 = .ok (.aload_n 0, 1) := by decide +kernel
theorem dX9_account_66 : decode cX9_account 66 = .ok (.getfield 10, 3) := by decide +kernel
theorem dX9_account_69 : decode cX9_account 69 = .ok (.iconst 1, 1) := by decide +kernel
theorem dX9_account_70 : decode cX9_account 70 = .ok (.invokevirtual 182, 3) := by decide +kernel
theorem dX9_account_73 : decode cX9_account 73 = .ok (.ireturn, 1) := by decide +kernel
theorem dX9_account_74 : decode cX9_account 74 = .ok (.aload_n 0, 1) := by decide +kernel
theorem dX9_account_75 : decode cX9_account 75 = .ok (.getfield 10, 3) := by decide +kernel
theorem dX9_account_78 : decode cX9_account 78 = .ok (.iconst 2, 1) := by decide +kernel
theorem dX9_account_79 : decode cX9_account 79 = .ok (.invokevirtual 182, 3) := by decide +kernel
theorem dX9_account_82 : decode cX9_account 82 = .ok (.ireturn, 1) := by decide +kernel
theorem dX9_account_83 : decode cX9_account 83 = .ok (.aload_n 0, 1) := by decide +kernel
theorem dX9_account_84 : decode cX9_account 84 = .ok (.getfield 10, 3) := by decide +kernel
theorem dX9_account_87 : decode cX9_account 87 = .ok (.iconst 3, 1) := by decide +kernel
theorem dX9_account_88 : decode cX9_account 88 = .ok (.invokevirtual 182, 3) := by decide +kernel
theorem dX9_account_91 : decode cX9_account 91 = .ok (.ireturn, 1) := by decide +kernel
theorem dX9_account_92 : decode cX9_account 92 = .ok (.aload_n 0, 1) := by decide +kernel
theorem dX9_account_93 : decode cX9_account 93 = .ok (.getfield 10, 3) := by decide +kernel
theorem dX9_account_96 : decode cX9_account 96 = .ok (.getfield 185, 3) := by decide +kernel
theorem dX9_account_99 : decode cX9_account 99 = .ok (.ireturn, 1) := by decide +kernel
theorem dX9_account_100 : decode cX9_account 100 = .ok (.aload_n 0, 1) := by decide +kernel
theorem dX9_account_101 : decode cX9_account 101 = .ok (.getfield 10, 3) := by decide +kernel
theorem dX9_account_104 : decode cX9_account 104 = .ok (.getfield 188, 3) := by decide +kernel
theorem dX9_account_107 : decode cX9_account 107 = .ok (.getfield 192, 3) := by decide +kernel
theorem dX9_account_110 : decode cX9_account 110 = .ok (.ireturn, 1) := by decide +kernel
theorem dX9_account_111 : decode cX9_account 111 = .ok (.aload_n 0, 1) := by decide +kernel
theorem dX9_account_112 : decode cX9_account 112 = .ok (.getfield 10, 3) := by decide +kernel
theorem dX9_account_115 : decode cX9_account 115 = .ok (.getfield 188, 3) := by decide +kernel
theorem dX9_account_118 : decode cX9_account 118 = .ok (.getfield 197, 3) := by decide +kernel
theorem dX9_account_121 : decode cX9_account 121 = .ok (.ireturn, 1) := by decide +kernel
theorem dX9_account_122 : decode cX9_account 122 = .ok (.iconst (-1), 1) := by decide +kernel
theorem dX9_account_123 : decode cX9_account 123 = .ok (.ireturn, 1) := by decide +kernel
set_option maxRecDepth 20000 in
theorem ggX9_count_X2_sectors : GoodIn wsX9_count wsX2_sectors := goodIn_r _ [9, 10, 11, 12, 8, 13, 14, 15, 16, 17, 18, 78] (by decide +kernel) (by decide +kernel)
set_option maxRecDepth 20000 in
theorem gX9_count_X2_sectors : GoodIn wsX9_count (wsV RX9 200 RX2 yX2_sectors wsX2_sectors) := goodIn_app (goodIn_of _ (by decide +kernel)) ggX9_count_X2_sectors
set_option maxRecDepth 20000 in
theorem ggX9_count_X1_lamps : GoodIn wsX9_count wsX1_lamps := goodIn_r _ [23, 24, 25, 26, 22, 27, 28, 29, 30, 31, 61, 62, 63, 64, 65, 66, 67] (by decide +kernel) (by decide +kernel)
set_option maxRecDepth 20000 in
theorem gX9_count_X1_lamps : GoodIn wsX9_count (wsV RX9 128 RX1 yX1_lamps wsX1_lamps) := goodIn_app (goodIn_of _ (by decide +kernel)) ggX9_count_X1_lamps
set_option maxRecDepth 20000 in
theorem ggX9_count_X1_goodLamps : GoodIn wsX9_count wsX1_goodLamps := goodIn_r _ [35, 36, 37, 38, 22, 39, 40, 28, 29, 30, 31, 61, 62, 63, 64, 65, 66, 67] (by decide +kernel) (by decide +kernel)
set_option maxRecDepth 20000 in
theorem gX9_count_X1_goodLamps : GoodIn wsX9_count (wsV RX9 203 RX1 yX1_goodLamps wsX1_goodLamps) := goodIn_app (goodIn_of _ (by decide +kernel)) ggX9_count_X1_goodLamps
set_option maxRecDepth 20000 in
theorem ggX9_count_X6_kept : GoodIn wsX9_count wsX6_kept := goodIn_r _ [45, 46, 79, 80, 81, 82, 83, 84, 85] (by decide +kernel) (by decide +kernel)
set_option maxRecDepth 20000 in
theorem gX9_count_X6_kept : GoodIn wsX9_count (wsV RX9 212 RX6 yX6_kept wsX6_kept) := goodIn_app (goodIn_of _ (by decide +kernel)) ggX9_count_X6_kept
theorem dX9_count_0 : decode cX9_count 0 = .ok (.iload_n 1, 1) := by decide +kernel
theorem dX9_count_1 : decode cX9_count 1 = .ok (.tableswitch 188 0 11 #[63, 74, 85, 96, 107, 118, 129, 140, 148, 159, 167, 175], 63) := by decide +kernel
theorem dX9_count_64 : decode cX9_count 64 = .ok (.aload_n 0, 1) := by decide +kernel
theorem dX9_count_65 : decode cX9_count 65 = .ok (.getfield 10, 3) := by decide +kernel
theorem dX9_count_68 : decode cX9_count 68 = .ok (.getfield 44, 3) := by decide +kernel
theorem dX9_count_71 : decode cX9_count 71 = .ok (.invokevirtual 200, 3) := by decide +kernel
theorem dX9_count_74 : decode cX9_count 74 = .ok (.ireturn, 1) := by decide +kernel
theorem dX9_count_75 : decode cX9_count 75 = .ok (.aload_n 0, 1) := by decide +kernel
theorem dX9_count_76 : decode cX9_count 76 = .ok (.getfield 10, 3) := by decide +kernel
theorem dX9_count_79 : decode cX9_count 79 = .ok (.getfield 124, 3) := by decide +kernel
theorem dX9_count_82 : decode cX9_count 82 = .ok (.invokevirtual 128, 3) := by decide +kernel
theorem dX9_count_85 : decode cX9_count 85 = .ok (.ireturn, 1) := by decide +kernel
theorem dX9_count_86 : decode cX9_count 86 = .ok (.aload_n 0, 1) := by decide +kernel
theorem dX9_count_87 : decode cX9_count 87 = .ok (.getfield 10, 3) := by decide +kernel
theorem dX9_count_90 : decode cX9_count 90 = .ok (.getfield 124, 3) := by decide +kernel
theorem dX9_count_93 : decode cX9_count 93 = .ok (.invokevirtual 203, 3) := by decide +kernel
theorem dX9_count_96 : decode cX9_count 96 = .ok (.ireturn, 1) := by decide +kernel
theorem dX9_count_97 : decode cX9_count 97 = .ok (.aload_n 0, 1) := by decide +kernel
theorem dX9_count_98 : decode cX9_count 98 = .ok (.getfield 10, 3) := by decide +kernel
theorem dX9_count_101 : decode cX9_count 101 = .ok (.getfield 124, 3) := by decide +kernel
theorem dX9_count_104 : decode cX9_count 104 = .ok (.getfield 206, 3) := by decide +kernel
theorem dX9_count_107 : decode cX9_count 107 = .ok (.ireturn, 1) := by decide +kernel
theorem dX9_count_108 : decode cX9_count 108 = .ok (.aload_n 0, 1) := by decide +kernel
theorem dX9_count_109 : decode cX9_count 109 = .ok (.getfield 10, 3) := by decide +kernel
theorem dX9_count_112 : decode cX9_count 112 = .ok (.getfield 124, 3) := by decide +kernel
theorem dX9_count_115 : decode cX9_count 115 = .ok (.getfield 209, 3) := by decide +kernel
theorem dX9_count_118 : decode cX9_count 118 = .ok (.ireturn, 1) := by decide +kernel
theorem dX9_count_119 : decode cX9_count 119 = .ok (.aload_n 0, 1) := by decide +kernel
theorem dX9_count_120 : decode cX9_count 120 = .ok (.getfield 10, 3) := by decide +kernel
theorem dX9_count_123 : decode cX9_count 123 = .ok (.getfield 124, 3) := by decide +kernel
theorem dX9_count_126 : decode cX9_count 126 = .ok (.getfield 137, 3) := by decide +kernel
theorem dX9_count_129 : decode cX9_count 129 = .ok (.ireturn, 1) := by decide +kernel
theorem dX9_count_130 : decode cX9_count 130 = .ok (.aload_n 0, 1) := by decide +kernel
theorem dX9_count_131 : decode cX9_count 131 = .ok (.getfield 10, 3) := by decide +kernel
theorem dX9_count_134 : decode cX9_count 134 = .ok (.getfield 124, 3) := by decide +kernel
theorem dX9_count_137 : decode cX9_count 137 = .ok (.getfield 164, 3) := by decide +kernel
theorem dX9_count_140 : decode cX9_count 140 = .ok (.ireturn, 1) := by decide +kernel
theorem dX9_count_141 : decode cX9_count 141 = .ok (.aload_n 0, 1) := by decide +kernel
theorem dX9_count_142 : decode cX9_count 142 = .ok (.getfield 10, 3) := by decide +kernel
theorem dX9_count_145 : decode cX9_count 145 = .ok (.getfield 167, 3) := by decide +kernel
theorem dX9_count_148 : decode cX9_count 148 = .ok (.ireturn, 1) := by decide +kernel
theorem dX9_count_149 : decode cX9_count 149 = .ok (.aload_n 0, 1) := by decide +kernel
theorem dX9_count_150 : decode cX9_count 150 = .ok (.getfield 10, 3) := by decide +kernel
theorem dX9_count_153 : decode cX9_count 153 = .ok (.getfield 188, 3) := by decide +kernel
theorem dX9_count_156 : decode cX9_count 156 = .ok (.invokevirtual 212, 3) := by decide +kernel
theorem dX9_count_159 : decode cX9_count 159 = .ok (.ireturn, 1) := by decide +kernel
theorem dX9_count_160 : decode cX9_count 160 = .ok (.aload_n 0, 1) := by decide +kernel
theorem dX9_count_161 : decode cX9_count 161 = .ok (.getfield 25, 3) := by decide +kernel
theorem dX9_count_164 : decode cX9_count 164 = .ok (.getfield 215, 3) := by decide +kernel
theorem dX9_count_167 : decode cX9_count 167 = .ok (.ireturn, 1) := by decide +kernel
theorem dX9_count_168 : decode cX9_count 168 = .ok (.aload_n 0, 1) := by decide +kernel
theorem dX9_count_169 : decode cX9_count 169 = .ok (.getfield 32, 3) := by decide +kernel
theorem dX9_count_172 : decode cX9_count 172 = .ok (.getfield 218, 3) := by decide +kernel
theorem dX9_count_175 : decode cX9_count 175 = .ok (.ireturn, 1) := by decide +kernel
theorem dX9_count_176 : decode cX9_count 176 = .ok (.aload_n 0, 1) := by decide +kernel
theorem dX9_count_177 : decode cX9_count 177 = .ok (.getfield 221, 3) := by decide +kernel
theorem dX9_count_180 : decode cX9_count 180 = .ok (.ifCond .eq 7, 3) := by decide +kernel
theorem dX9_count_183 : decode cX9_count 183 = .ok (.iconst 1, 1) := by decide +kernel
theorem dX9_count_184 : decode cX9_count 184 = .ok (.goto 4, 3) := by decide +kernel
theorem dX9_count_187 : decode cX9_count 187 = .ok (.iconst 0, 1) := by decide +kernel
theorem dX9_count_188 : decode cX9_count 188 = .ok (.ireturn, 1) := by decide +kernel
theorem dX9_count_189 : decode cX9_count 189 = .ok (.iconst (-1), 1) := by decide +kernel
theorem dX9_count_190 : decode cX9_count 190 = .ok (.ireturn, 1) := by decide +kernel
set_option maxRecDepth 20000 in
theorem ggX9_untilIdle_X7_become : GoodIn wsX9_untilIdle wsX7_become := goodIn_r _ [7, 8, 9, 10, 11, 12, 13, 14, 15, 16, 17, 18, 19, 20, 21, 22, 23, 24, 25, 26, 27, 28, 29, 30, 31, 32, 33, 34, 35, 36, 37, 38, 39, 40, 41, 42, 43, 44, 45, 46, 47, 48, 49, 50, 51, 52, 53, 54, 55, 56, 57, 58, 59, 60, 61, 62, 63, 97, 98, 99, 100, 101, 102, 103, 104, 105, 106, 107, 108, 109, 110, 111, 112, 113, 114, 115, 116, 117, 118, 119, 120, 121, 122, 123, 124] (by decide +kernel) (by decide +kernel)
set_option maxRecDepth 20000 in
theorem gX9_untilIdle_X7_become : GoodIn wsX9_untilIdle (wsV RX9 225 RX7 yX7_become wsX7_become) := goodIn_app (goodIn_of _ (by decide +kernel)) ggX9_untilIdle_X7_become
set_option maxRecDepth 20000 in
theorem ggX9_untilIdle_X7_goOn : GoodIn wsX9_untilIdle wsX7_goOn := goodIn_r _ [67, 10, 19, 17, 9, 12, 68, 69, 70, 41, 71, 50, 48, 49, 72, 73, 74, 75, 46, 45, 76, 77, 78, 79, 80, 81, 30, 82, 35, 32, 34, 83, 84, 85, 86, 36, 37, 87, 88, 89, 90, 47, 97, 98, 99, 100, 101, 102, 103, 104, 111, 112, 113, 114, 115, 116, 117, 106, 107, 108, 109, 110] (by decide +kernel) (by decide +kernel)
set_option maxRecDepth 20000 in
theorem gX9_untilIdle_X7_goOn : GoodIn wsX9_untilIdle (wsV RX9 179 RX7 yX7_goOn wsX7_goOn) := goodIn_app (goodIn_of _ (by decide +kernel)) ggX9_untilIdle_X7_goOn
theorem dX9_untilIdle_0 : decode cX9_untilIdle 0 = .ok (.aload_n 0, 1) := by decide +kernel
theorem dX9_untilIdle_1 : decode cX9_untilIdle 1 = .ok (.getfield 19, 3) := by decide +kernel
theorem dX9_untilIdle_4 : decode cX9_untilIdle 4 = .ok (.aload_n 0, 1) := by decide +kernel
theorem dX9_untilIdle_5 : decode cX9_untilIdle 5 = .ok (.getfield 10, 3) := by decide +kernel
theorem dX9_untilIdle_8 : decode cX9_untilIdle 8 = .ok (.invokevirtual 225, 3) := by decide +kernel
theorem dX9_untilIdle_11 : decode cX9_untilIdle 11 = .ok (.iconst 0, 1) := by decide +kernel
theorem dX9_untilIdle_12 : decode cX9_untilIdle 12 = .ok (.istore_n 1, 1) := by decide +kernel
theorem dX9_untilIdle_13 : decode cX9_untilIdle 13 = .ok (.iload_n 1, 1) := by decide +kernel
theorem dX9_untilIdle_14 : decode cX9_untilIdle 14 = .ok (.sipush 20000, 3) := by decide +kernel
theorem dX9_untilIdle_17 : decode cX9_untilIdle 17 = .ok (.if_icmp .ge 22, 3) := by decide +kernel
theorem dX9_untilIdle_20 : decode cX9_untilIdle 20 = .ok (.aload_n 0, 1) := by decide +kernel
theorem dX9_untilIdle_21 : decode cX9_untilIdle 21 = .ok (.getfield 19, 3) := by decide +kernel
theorem dX9_untilIdle_24 : decode cX9_untilIdle 24 = .ok (.invokevirtual 179, 3) := by decide +kernel
theorem dX9_untilIdle_27 : decode cX9_untilIdle 27 = .ok (.iconst 3, 1) := by decide +kernel
theorem dX9_untilIdle_28 : decode cX9_untilIdle 28 = .ok (.if_icmp .ne 5, 3) := by decide +kernel
theorem dX9_untilIdle_31 : decode cX9_untilIdle 31 = .ok (.iload_n 1, 1) := by decide +kernel
theorem dX9_untilIdle_32 : decode cX9_untilIdle 32 = .ok (.ireturn, 1) := by decide +kernel
theorem dX9_untilIdle_33 : decode cX9_untilIdle 33 = .ok (.iinc 1 1, 3) := by decide +kernel
theorem dX9_untilIdle_36 : decode cX9_untilIdle 36 = .ok (.goto (-23), 3) := by decide +kernel
theorem dX9_untilIdle_39 : decode cX9_untilIdle 39 = .ok (.bipush (-4), 2) := by decide +kernel
theorem dX9_untilIdle_41 : decode cX9_untilIdle 41 = .ok (.ireturn, 1) := by decide +kernel
set_option maxRecDepth 20000 in
theorem ggX9_sees_X9_isFar : GoodIn wsX9_sees wsX9_isFar := goodIn_r _ [6, 7, 8, 5, 9] (by decide +kernel) (by decide +kernel)
set_option maxRecDepth 20000 in
theorem gX9_sees_X9_isFar : GoodIn wsX9_sees (va_wsS RX9 64 yX9_isFar wsX9_isFar) := goodIn_app (goodIn_of _ (by decide +kernel)) ggX9_sees_X9_isFar
set_option maxRecDepth 20000 in
theorem ggX9_sees_X7_become : GoodIn wsX9_sees wsX7_become := goodIn_r _ [14, 15, 16, 17, 18, 19, 20, 21, 22, 23, 24, 25, 26, 27, 28, 29, 30, 31, 32, 33, 34, 35, 36, 37, 38, 39, 40, 41, 42, 43, 44, 45, 46, 47, 48, 49, 50, 51, 52, 53, 54, 55, 56, 57, 58, 59, 60, 61, 62, 63, 64, 65, 66, 67, 68, 69, 70, 143, 144, 145, 146, 147, 148, 149, 150, 151, 152, 153, 154, 155, 156, 157, 158, 159, 160, 161, 162, 163, 164, 165, 166, 167, 168, 169, 170] (by decide +kernel) (by decide +kernel)
set_option maxRecDepth 20000 in
theorem gX9_sees_X7_become : GoodIn wsX9_sees (wsV RX9 225 RX7 yX7_become wsX7_become) := goodIn_app (goodIn_of _ (by decide +kernel)) ggX9_sees_X7_become
set_option maxRecDepth 20000 in
theorem ggX9_sees_X7_goOn : GoodIn wsX9_sees wsX7_goOn := goodIn_r _ [74, 17, 26, 24, 16, 19, 75, 76, 77, 48, 78, 57, 55, 56, 79, 80, 81, 82, 53, 52, 83, 84, 85, 86, 87, 88, 37, 89, 42, 39, 41, 90, 91, 92, 93, 43, 44, 94, 95, 96, 97, 54, 143, 144, 145, 146, 147, 148, 149, 150, 157, 158, 159, 160, 161, 162, 163, 152, 153, 154, 155, 156] (by decide +kernel) (by decide +kernel)
set_option maxRecDepth 20000 in
theorem gX9_sees_X7_goOn : GoodIn wsX9_sees (wsV RX9 179 RX7 yX7_goOn wsX7_goOn) := goodIn_app (goodIn_of _ (by decide +kernel)) ggX9_sees_X7_goOn
set_option maxRecDepth 20000 in
theorem ggX9_sees_X7_shownAt : GoodIn wsX9_sees wsX7_shownAt := goodIn_r _ [101, 15, 102, 103, 104, 105, 106, 107, 108, 109, 110, 111, 112, 113, 114, 115, 116, 117, 118, 30, 119, 32, 120, 121, 122, 13, 123, 124, 125, 126, 127, 17, 128, 25, 129, 130, 131, 132, 48, 133, 52, 50, 53, 83, 84, 85, 134, 135, 136, 143, 144, 145, 146, 147, 148, 149, 150, 151, 157, 158, 159, 160, 161, 162, 163] (by decide +kernel) (by decide +kernel)
set_option maxRecDepth 20000 in
theorem gX9_sees_X7_shownAt : GoodIn wsX9_sees (wsV RX9 228 RX7 yX7_shownAt wsX7_shownAt) := goodIn_app (goodIn_of _ (by decide +kernel)) ggX9_sees_X7_shownAt
theorem dX9_sees_0 : decode cX9_sees 0 = .ok (.iload_n 1, 1) := by decide +kernel
theorem dX9_sees_1 : decode cX9_sees 1 = .ok (.invokestatic 64, 3) := by decide +kernel
theorem dX9_sees_4 : decode cX9_sees 4 = .ok (.ifCond .ne 10, 3) := by decide +kernel
theorem dX9_sees_7 : decode cX9_sees 7 = .ok (.iload_n 2, 1) := by decide +kernel
theorem dX9_sees_8 : decode cX9_sees 8 = .ok (.invokestatic 64, 3) := by decide +kernel
theorem dX9_sees_11 : decode cX9_sees 11 = .ok (.ifCond .eq 5, 3) := by decide +kernel
theorem dX9_sees_14 : decode cX9_sees 14 = .ok (.iconst (-1), 1) := by decide +kernel
theorem dX9_sees_15 : decode cX9_sees 15 = .ok (.ireturn, 1) := by decide +kernel
theorem dX9_sees_16 : decode cX9_sees 16 = .ok (.iload_n 1, 1) := by decide +kernel
theorem dX9_sees_17 : decode cX9_sees 17 = .ok (.ifCond .ne 10, 3) := by decide +kernel
theorem dX9_sees_20 : decode cX9_sees 20 = .ok (.iload_n 2, 1) := by decide +kernel
theorem dX9_sees_21 : decode cX9_sees 21 = .ok (.ifCond .ne 6, 3) := by decide +kernel
theorem dX9_sees_24 : decode cX9_sees 24 = .ok (.bipush (-2), 2) := by decide +kernel
theorem dX9_sees_26 : decode cX9_sees 26 = .ok (.ireturn, 1) := by decide +kernel
theorem dX9_sees_27 : decode cX9_sees 27 = .ok (.aload_n 0, 1) := by decide +kernel
theorem dX9_sees_28 : decode cX9_sees 28 = .ok (.getfield 19, 3) := by decide +kernel
theorem dX9_sees_31 : decode cX9_sees 31 = .ok (.aload_n 0, 1) := by decide +kernel
theorem dX9_sees_32 : decode cX9_sees 32 = .ok (.getfield 10, 3) := by decide +kernel
theorem dX9_sees_35 : decode cX9_sees 35 = .ok (.invokevirtual 225, 3) := by decide +kernel
theorem dX9_sees_38 : decode cX9_sees 38 = .ok (.aload_n 0, 1) := by decide +kernel
theorem dX9_sees_39 : decode cX9_sees 39 = .ok (.getfield 19, 3) := by decide +kernel
theorem dX9_sees_42 : decode cX9_sees 42 = .ok (.invokevirtual 179, 3) := by decide +kernel
theorem dX9_sees_45 : decode cX9_sees 45 = .ok (.istore_n 3, 1) := by decide +kernel
theorem dX9_sees_46 : decode cX9_sees 46 = .ok (.aload_n 0, 1) := by decide +kernel
theorem dX9_sees_47 : decode cX9_sees 47 = .ok (.getfield 19, 3) := by decide +kernel
theorem dX9_sees_50 : decode cX9_sees 50 = .ok (.iload_n 1, 1) := by decide +kernel
theorem dX9_sees_51 : decode cX9_sees 51 = .ok (.iload_n 2, 1) := by decide +kernel
theorem dX9_sees_52 : decode cX9_sees 52 = .ok (.iload_n 3, 1) := by decide +kernel
theorem dX9_sees_53 : decode cX9_sees 53 = .ok (.invokevirtual 228, 3) := by decide +kernel
theorem dX9_sees_56 : decode cX9_sees 56 = .ok (.ireturn, 1) := by decide +kernel
set_option maxRecDepth 20000 in
theorem ggX9_pass_X9_isFar : GoodIn wsX9_pass wsX9_isFar := goodIn_r _ [7, 8, 9, 6, 10] (by decide +kernel) (by decide +kernel)
set_option maxRecDepth 20000 in
theorem gX9_pass_X9_isFar : GoodIn wsX9_pass (va_wsS RX9 64 yX9_isFar wsX9_isFar) := goodIn_app (goodIn_of _ (by decide +kernel)) ggX9_pass_X9_isFar
set_option maxRecDepth 20000 in
theorem ggX9_pass_X9_isOutside : GoodIn wsX9_pass wsX9_isOutside := goodIn_r _ [10] (by decide +kernel) (by decide +kernel)
set_option maxRecDepth 20000 in
theorem gX9_pass_X9_isOutside : GoodIn wsX9_pass (va_wsS RX9 36 yX9_isOutside wsX9_isOutside) := goodIn_app (goodIn_of _ (by decide +kernel)) ggX9_pass_X9_isOutside
set_option maxRecDepth 20000 in
theorem ggX9_pass_X5_keep : GoodIn wsX9_pass wsX5_keep := goodIn_r _ [15, 16, 17, 18, 19, 20, 21, 22, 23, 24, 25, 26, 27, 28, 29, 30, 31, 32, 33, 34, 35, 36, 37, 38, 39, 40, 41, 42, 43, 44, 45, 46, 47, 48, 49, 50, 51, 52, 53, 54, 55, 56, 57, 58, 59, 60, 61, 62, 63, 64, 65, 66, 67, 68, 69, 70, 71, 72, 73, 74, 75, 76, 77, 78, 79, 187, 188, 189, 172, 173, 174, 175, 176, 177, 178, 179, 190, 191, 192, 193, 194, 195, 196, 197, 198, 199, 200, 201, 202, 180, 181, 182, 183, 184, 185, 186] (by decide +kernel) (by decide +kernel)
set_option maxRecDepth 20000 in
theorem gX9_pass_X5_keep : GoodIn wsX9_pass (wsV RX9 40 RX5 yX5_keep wsX5_keep) := goodIn_app (goodIn_of _ (by decide +kernel)) ggX9_pass_X5_keep
set_option maxRecDepth 20000 in
theorem ggX9_pass_X6_beginPassage : GoodIn wsX9_pass wsX6_beginPassage := goodIn_r _ [83, 78, 77, 180, 181, 182, 183, 184, 185, 186] (by decide +kernel) (by decide +kernel)
set_option maxRecDepth 20000 in
theorem gX9_pass_X6_beginPassage : GoodIn wsX9_pass (wsV RX9 231 RX6 yX6_beginPassage wsX6_beginPassage) := goodIn_app (goodIn_of _ (by decide +kernel)) ggX9_pass_X6_beginPassage
set_option maxRecDepth 20000 in
theorem ggX9_pass_J9_floorDiv_7cf53 : GoodIn wsX9_pass wsJ9_floorDiv_7cf53 := goodIn_r _ [87] (by decide +kernel) (by decide +kernel)
set_option maxRecDepth 20000 in
theorem gX9_pass_J9_floorDiv_7cf53 : GoodIn wsX9_pass (va_wsS RX9 234 yJ9_floorDiv_7cf53 wsJ9_floorDiv_7cf53) := goodIn_app (goodIn_of _ (by decide +kernel)) ggX9_pass_J9_floorDiv_7cf53
set_option maxRecDepth 20000 in
theorem ggX9_pass_X7_goOnWithShip : GoodIn wsX9_pass wsX7_goOnWithShip := goodIn_r _ [91, 27, 33, 92, 93, 94, 22, 95, 26, 35, 25, 28, 96, 97, 98, 57, 99, 66, 64, 65, 100, 101, 102, 103, 62, 61, 104, 105, 106, 107, 108, 109, 46, 110, 51, 48, 50, 111, 112, 113, 114, 52, 53, 115, 116, 117, 118, 63, 119, 120, 121, 122, 24, 123, 124, 125, 126, 127, 128, 129, 130, 131, 132, 133, 134, 135, 136, 137, 138, 139, 39, 140, 41, 141, 142, 143, 144, 145, 146, 147, 148, 149, 34, 150, 151, 152, 153, 154, 59, 155, 156, 157, 158, 159, 160, 70, 161, 77, 162, 163, 164, 165, 79, 72, 74, 75, 76, 78, 172, 173, 174, 175, 176, 177, 178, 179, 196, 197, 198, 199, 200, 201, 202, 191, 192, 193, 194, 195, 190, 180, 181, 182, 183, 184, 185, 186] (by decide +kernel) (by decide +kernel)
set_option maxRecDepth 20000 in
theorem gX9_pass_X7_goOnWithShip : GoodIn wsX9_pass (wsV RX9 239 RX7 yX7_goOnWithShip wsX7_goOnWithShip) := goodIn_app (goodIn_of _ (by decide +kernel)) ggX9_pass_X7_goOnWithShip
theorem dX9_pass_0 : decode cX9_pass 0 = .ok (.iload_n 1, 1) := by decide +kernel
theorem dX9_pass_1 : decode cX9_pass 1 = .ok (.invokestatic 64, 3) := by decide +kernel
theorem dX9_pass_4 : decode cX9_pass 4 = .ok (.ifCond .ne 37, 3) := by decide +kernel
theorem dX9_pass_7 : decode cX9_pass 7 = .ok (.iload_n 2, 1) := by decide +kernel
theorem dX9_pass_8 : decode cX9_pass 8 = .ok (.invokestatic 64, 3) := by decide +kernel
theorem dX9_pass_11 : decode cX9_pass 11 = .ok (.ifCond .ne 30, 3) := by decide +kernel
theorem dX9_pass_14 : decode cX9_pass 14 = .ok (.iload_n 3, 1) := by decide +kernel
theorem dX9_pass_15 : decode cX9_pass 15 = .ok (.invokestatic 64, 3) := by decide +kernel
theorem dX9_pass_18 : decode cX9_pass 18 = .ok (.ifCond .ne 23, 3) := by decide +kernel
theorem dX9_pass_21 : decode cX9_pass 21 = .ok (.iload 4, 2) := by decide +kernel
theorem dX9_pass_23 : decode cX9_pass 23 = .ok (.invokestatic 64, 3) := by decide +kernel
theorem dX9_pass_26 : decode cX9_pass 26 = .ok (.ifCond .ne 15, 3) := by decide +kernel
theorem dX9_pass_29 : decode cX9_pass 29 = .ok (.iload 5, 2) := by decide +kernel
theorem dX9_pass_31 : decode cX9_pass 31 = .ok (.iconst 1, 1) := by decide +kernel
theorem dX9_pass_32 : decode cX9_pass 32 = .ok (.sipush 500, 3) := by decide +kernel
theorem dX9_pass_35 : decode cX9_pass 35 = .ok (.invokestatic 36, 3) := by decide +kernel
theorem dX9_pass_38 : decode cX9_pass 38 = .ok (.ifCond .eq 5, 3) := by decide +kernel
theorem dX9_pass_41 : decode cX9_pass 41 = .ok (.iconst (-1), 1) := by decide +kernel
theorem dX9_pass_42 : decode cX9_pass 42 = .ok (.ireturn, 1) := by decide +kernel
theorem dX9_pass_43 : decode cX9_pass 43 = .ok (.iload 5, 2) := by decide +kernel
theorem dX9_pass_45 : decode cX9_pass 45 = .ok (.ldc 178, 2) := by decide +kernel
theorem dX9_pass_47 : decode cX9_pass 47 = .ok (.aload_n 0, 1) := by decide +kernel
theorem dX9_pass_48 : decode cX9_pass 48 = .ok (.getfield 10, 3) := by decide +kernel
theorem dX9_pass_51 : decode cX9_pass 51 = .ok (.getfield 107, 3) := by decide +kernel
theorem dX9_pass_54 : decode cX9_pass 54 = .ok (.isub, 1) := by decide +kernel
theorem dX9_pass_55 : decode cX9_pass 55 = .ok (.if_icmp .le 6, 3) := by decide +kernel
theorem dX9_pass_58 : decode cX9_pass 58 = .ok (.bipush (-3), 2) := by decide +kernel
theorem dX9_pass_60 : decode cX9_pass 60 = .ok (.ireturn, 1) := by decide +kernel
theorem dX9_pass_61 : decode cX9_pass 61 = .ok (.aload_n 0, 1) := by decide +kernel
theorem dX9_pass_62 : decode cX9_pass 62 = .ok (.getfield 25, 3) := by decide +kernel
theorem dX9_pass_65 : decode cX9_pass 65 = .ok (.aload_n 0, 1) := by decide +kernel
theorem dX9_pass_66 : decode cX9_pass 66 = .ok (.getfield 10, 3) := by decide +kernel
theorem dX9_pass_69 : decode cX9_pass 69 = .ok (.invokevirtual 40, 3) := by decide +kernel
theorem dX9_pass_72 : decode cX9_pass 72 = .ok (.aload_n 0, 1) := by decide +kernel
theorem dX9_pass_73 : decode cX9_pass 73 = .ok (.getfield 10, 3) := by decide +kernel
theorem dX9_pass_76 : decode cX9_pass 76 = .ok (.getfield 188, 3) := by decide +kernel
theorem dX9_pass_79 : decode cX9_pass 79 = .ok (.invokevirtual 231, 3) := by decide +kernel
theorem dX9_pass_82 : decode cX9_pass 82 = .ok (.aload_n 0, 1) := by decide +kernel
theorem dX9_pass_83 : decode cX9_pass 83 = .ok (.getfield 10, 3) := by decide +kernel
theorem dX9_pass_86 : decode cX9_pass 86 = .ok (.getfield 188, 3) := by decide +kernel
theorem dX9_pass_89 : decode cX9_pass 89 = .ok (.getfield 197, 3) := by decide +kernel
theorem dX9_pass_92 : decode cX9_pass 92 = .ok (.istore 6, 2) := by decide +kernel
theorem dX9_pass_94 : decode cX9_pass 94 = .ok (.iconst (-1), 1) := by decide +kernel
theorem dX9_pass_95 : decode cX9_pass 95 = .ok (.istore 7, 2) := by decide +kernel
theorem dX9_pass_97 : decode cX9_pass 97 = .ok (.iconst 0, 1) := by decide +kernel
theorem dX9_pass_98 : decode cX9_pass 98 = .ok (.istore 8, 2) := by decide +kernel
theorem dX9_pass_100 : decode cX9_pass 100 = .ok (.iload 8, 2) := by decide +kernel
theorem dX9_pass_102 : decode cX9_pass 102 = .ok (.iload 5, 2) := by decide +kernel
theorem dX9_pass_104 : decode cX9_pass 104 = .ok (.if_icmp .ge 55, 3) := by decide +kernel
theorem dX9_pass_107 : decode cX9_pass 107 = .ok (.iload_n 1, 1) := by decide +kernel
theorem dX9_pass_108 : decode cX9_pass 108 = .ok (.iload_n 3, 1) := by decide +kernel
theorem dX9_pass_109 : decode cX9_pass 109 = .ok (.iload_n 1, 1) := by decide +kernel
theorem dX9_pass_110 : decode cX9_pass 110 = .ok (.isub, 1) := by decide +kernel
theorem dX9_pass_111 : decode cX9_pass 111 = .ok (.iload 8, 2) := by decide +kernel
theorem dX9_pass_113 : decode cX9_pass 113 = .ok (.imul, 1) := by decide +kernel
theorem dX9_pass_114 : decode cX9_pass 114 = .ok (.iload 5, 2) := by decide +kernel
theorem dX9_pass_116 : decode cX9_pass 116 = .ok (.invokestatic 234, 3) := by decide +kernel
theorem dX9_pass_119 : decode cX9_pass 119 = .ok (.iadd, 1) := by decide +kernel
theorem dX9_pass_120 : decode cX9_pass 120 = .ok (.istore 9, 2) := by decide +kernel
theorem dX9_pass_122 : decode cX9_pass 122 = .ok (.iload_n 2, 1) := by decide +kernel
theorem dX9_pass_123 : decode cX9_pass 123 = .ok (.iload 4, 2) := by decide +kernel
theorem dX9_pass_125 : decode cX9_pass 125 = .ok (.iload_n 2, 1) := by decide +kernel
theorem dX9_pass_126 : decode cX9_pass 126 = .ok (.isub, 1) := by decide +kernel
theorem dX9_pass_127 : decode cX9_pass 127 = .ok (.iload 8, 2) := by decide +kernel
theorem dX9_pass_129 : decode cX9_pass 129 = .ok (.imul, 1) := by decide +kernel
theorem dX9_pass_130 : decode cX9_pass 130 = .ok (.iload 5, 2) := by decide +kernel
theorem dX9_pass_132 : decode cX9_pass 132 = .ok (.invokestatic 234, 3) := by decide +kernel
theorem dX9_pass_135 : decode cX9_pass 135 = .ok (.iadd, 1) := by decide +kernel
theorem dX9_pass_136 : decode cX9_pass 136 = .ok (.istore 10, 2) := by decide +kernel
theorem dX9_pass_138 : decode cX9_pass 138 = .ok (.aload_n 0, 1) := by decide +kernel
theorem dX9_pass_139 : decode cX9_pass 139 = .ok (.getfield 10, 3) := by decide +kernel
theorem dX9_pass_142 : decode cX9_pass 142 = .ok (.iload 9, 2) := by decide +kernel
theorem dX9_pass_144 : decode cX9_pass 144 = .ok (.iload 10, 2) := by decide +kernel
theorem dX9_pass_146 : decode cX9_pass 146 = .ok (.iload 7, 2) := by decide +kernel
theorem dX9_pass_148 : decode cX9_pass 148 = .ok (.invokevirtual 239, 3) := by decide +kernel
theorem dX9_pass_151 : decode cX9_pass 151 = .ok (.istore 7, 2) := by decide +kernel
theorem dX9_pass_153 : decode cX9_pass 153 = .ok (.iinc 8 1, 3) := by decide +kernel
theorem dX9_pass_156 : decode cX9_pass 156 = .ok (.goto (-56), 3) := by decide +kernel
theorem dX9_pass_159 : decode cX9_pass 159 = .ok (.aload_n 0, 1) := by decide +kernel
theorem dX9_pass_160 : decode cX9_pass 160 = .ok (.getfield 10, 3) := by decide +kernel
theorem dX9_pass_163 : decode cX9_pass 163 = .ok (.getfield 188, 3) := by decide +kernel
theorem dX9_pass_166 : decode cX9_pass 166 = .ok (.getfield 197, 3) := by decide +kernel
theorem dX9_pass_169 : decode cX9_pass 169 = .ok (.iload 6, 2) := by decide +kernel
theorem dX9_pass_171 : decode cX9_pass 171 = .ok (.isub, 1) := by decide +kernel
theorem dX9_pass_172 : decode cX9_pass 172 = .ok (.ireturn, 1) := by decide +kernel
set_option maxRecDepth 20000 in
theorem ggX9_entry_X9_isOutside : GoodIn wsX9_entry wsX9_isOutside := goodIn_r _ [5] (by decide +kernel) (by decide +kernel)
set_option maxRecDepth 20000 in
theorem gX9_entry_X9_isOutside : GoodIn wsX9_entry (va_wsS RX9 36 yX9_isOutside wsX9_isOutside) := goodIn_app (goodIn_of _ (by decide +kernel)) ggX9_entry_X9_isOutside
set_option maxRecDepth 20000 in
theorem ggX9_entry_X6_kept : GoodIn wsX9_entry wsX6_kept := goodIn_r _ [10, 11, 34, 35, 36, 37, 38, 39, 40] (by decide +kernel) (by decide +kernel)
set_option maxRecDepth 20000 in
theorem gX9_entry_X6_kept : GoodIn wsX9_entry (wsV RX9 212 RX6 yX6_kept wsX6_kept) := goodIn_app (goodIn_of _ (by decide +kernel)) ggX9_entry_X6_kept
set_option maxRecDepth 20000 in
theorem ggX9_entry_X6_valueOf : GoodIn wsX9_entry wsX6_valueOf := goodIn_r _ [15, 11, 16, 17, 18, 19, 34, 35, 36, 37, 38, 39, 40] (by decide +kernel) (by decide +kernel)
set_option maxRecDepth 20000 in
theorem gX9_entry_X6_valueOf : GoodIn wsX9_entry (wsV RX9 242 RX6 yX6_valueOf wsX6_valueOf) := goodIn_app (goodIn_of _ (by decide +kernel)) ggX9_entry_X6_valueOf
theorem dX9_entry_0 : decode cX9_entry 0 = .ok (.iload_n 1, 1) := by decide +kernel
theorem dX9_entry_1 : decode cX9_entry 1 = .ok (.ifCond .lt 12, 3) := by decide +kernel
theorem dX9_entry_4 : decode cX9_entry 4 = .ok (.iload_n 2, 1) := by decide +kernel
theorem dX9_entry_5 : decode cX9_entry 5 = .ok (.iconst 0, 1) := by decide +kernel
theorem dX9_entry_6 : decode cX9_entry 6 = .ok (.iconst 3, 1) := by decide +kernel
theorem dX9_entry_7 : decode cX9_entry 7 = .ok (.invokestatic 36, 3) := by decide +kernel
theorem dX9_entry_10 : decode cX9_entry 10 = .ok (.ifCond .eq 5, 3) := by decide +kernel
theorem dX9_entry_13 : decode cX9_entry 13 = .ok (.iconst (-1), 1) := by decide +kernel
theorem dX9_entry_14 : decode cX9_entry 14 = .ok (.ireturn, 1) := by decide +kernel
theorem dX9_entry_15 : decode cX9_entry 15 = .ok (.iload_n 1, 1) := by decide +kernel
theorem dX9_entry_16 : decode cX9_entry 16 = .ok (.aload_n 0, 1) := by decide +kernel
theorem dX9_entry_17 : decode cX9_entry 17 = .ok (.getfield 10, 3) := by decide +kernel
theorem dX9_entry_20 : decode cX9_entry 20 = .ok (.getfield 188, 3) := by decide +kernel
theorem dX9_entry_23 : decode cX9_entry 23 = .ok (.invokevirtual 212, 3) := by decide +kernel
theorem dX9_entry_26 : decode cX9_entry 26 = .ok (.if_icmp .lt 6, 3) := by decide +kernel
theorem dX9_entry_29 : decode cX9_entry 29 = .ok (.bipush (-4), 2) := by decide +kernel
theorem dX9_entry_31 : decode cX9_entry 31 = .ok (.ireturn, 1) := by decide +kernel
theorem dX9_entry_32 : decode cX9_entry 32 = .ok (.aload_n 0, 1) := by decide +kernel
theorem dX9_entry_33 : decode cX9_entry 33 = .ok (.getfield 10, 3) := by decide +kernel
theorem dX9_entry_36 : decode cX9_entry 36 = .ok (.getfield 188, 3) := by decide +kernel
theorem dX9_entry_39 : decode cX9_entry 39 = .ok (.iload_n 1, 1) := by decide +kernel
theorem dX9_entry_40 : decode cX9_entry 40 = .ok (.iload_n 2, 1) := by decide +kernel
theorem dX9_entry_41 : decode cX9_entry 41 = .ok (.invokevirtual 242, 3) := by decide +kernel
theorem dX9_entry_44 : decode cX9_entry 44 = .ok (.ireturn, 1) := by decide +kernel
set_option maxRecDepth 20000 in
theorem ggX9_seen_X9_isOutside : GoodIn wsX9_seen wsX9_isOutside := goodIn_r _ [5] (by decide +kernel) (by decide +kernel)
set_option maxRecDepth 20000 in
theorem gX9_seen_X9_isOutside : GoodIn wsX9_seen (va_wsS RX9 36 yX9_isOutside wsX9_isOutside) := goodIn_app (goodIn_of _ (by decide +kernel)) ggX9_seen_X9_isOutside
set_option maxRecDepth 20000 in
theorem ggX9_seen_X6_shownTicks : GoodIn wsX9_seen wsX6_shownTicks := goodIn_r _ [10, 11, 26, 27, 28, 29, 30, 31, 32] (by decide +kernel) (by decide +kernel)
set_option maxRecDepth 20000 in
theorem gX9_seen_X6_shownTicks : GoodIn wsX9_seen (wsV RX9 245 RX6 yX6_shownTicks wsX6_shownTicks) := goodIn_app (goodIn_of _ (by decide +kernel)) ggX9_seen_X6_shownTicks
theorem dX9_seen_0 : decode cX9_seen 0 = .ok (.iload_n 1, 1) := by decide +kernel
theorem dX9_seen_1 : decode cX9_seen 1 = .ok (.iconst 0, 1) := by decide +kernel
theorem dX9_seen_2 : decode cX9_seen 2 = .ok (.iconst 3, 1) := by decide +kernel
theorem dX9_seen_3 : decode cX9_seen 3 = .ok (.invokestatic 36, 3) := by decide +kernel
theorem dX9_seen_6 : decode cX9_seen 6 = .ok (.ifCond .eq 5, 3) := by decide +kernel
theorem dX9_seen_9 : decode cX9_seen 9 = .ok (.iconst (-1), 1) := by decide +kernel
theorem dX9_seen_10 : decode cX9_seen 10 = .ok (.ireturn, 1) := by decide +kernel
theorem dX9_seen_11 : decode cX9_seen 11 = .ok (.aload_n 0, 1) := by decide +kernel
theorem dX9_seen_12 : decode cX9_seen 12 = .ok (.getfield 10, 3) := by decide +kernel
theorem dX9_seen_15 : decode cX9_seen 15 = .ok (.getfield 188, 3) := by decide +kernel
theorem dX9_seen_18 : decode cX9_seen 18 = .ok (.getfield 192, 3) := by decide +kernel
theorem dX9_seen_21 : decode cX9_seen 21 = .ok (.ifCond .ne 6, 3) := by decide +kernel
theorem dX9_seen_24 : decode cX9_seen 24 = .ok (.bipush (-2), 2) := by decide +kernel
theorem dX9_seen_26 : decode cX9_seen 26 = .ok (.ireturn, 1) := by decide +kernel
theorem dX9_seen_27 : decode cX9_seen 27 = .ok (.aload_n 0, 1) := by decide +kernel
theorem dX9_seen_28 : decode cX9_seen 28 = .ok (.getfield 10, 3) := by decide +kernel
theorem dX9_seen_31 : decode cX9_seen 31 = .ok (.getfield 188, 3) := by decide +kernel
theorem dX9_seen_34 : decode cX9_seen 34 = .ok (.iload_n 1, 1) := by decide +kernel
theorem dX9_seen_35 : decode cX9_seen 35 = .ok (.invokevirtual 245, 3) := by decide +kernel
theorem dX9_seen_38 : decode cX9_seen 38 = .ok (.ireturn, 1) := by decide +kernel
set_option maxRecDepth 20000 in
theorem ggX9_store_X7_become : GoodIn wsX9_store wsX7_become := goodIn_r _ [8, 9, 10, 11, 12, 13, 14, 15, 16, 17, 18, 19, 20, 21, 22, 23, 24, 25, 26, 27, 28, 29, 30, 31, 32, 33, 34, 35, 36, 37, 38, 39, 40, 41, 42, 43, 44, 45, 46, 47, 48, 49, 50, 51, 52, 53, 54, 55, 56, 57, 58, 59, 60, 61, 62, 63, 64, 71, 72, 73, 74, 75, 76, 77, 78, 79, 80, 81, 82, 83, 84, 85, 86, 87, 88, 89, 90, 91, 92, 93, 94, 95, 96, 97, 98] (by decide +kernel) (by decide +kernel)
set_option maxRecDepth 20000 in
theorem gX9_store_X7_become : GoodIn wsX9_store (wsV RX9 225 RX7 yX7_become wsX7_become) := goodIn_app (goodIn_of _ (by decide +kernel)) ggX9_store_X7_become
theorem dX9_store_0 : decode cX9_store 0 = .ok (.aload_n 0, 1) := by decide +kernel
theorem dX9_store_1 : decode cX9_store 1 = .ok (.getfield 16, 3) := by decide +kernel
theorem dX9_store_4 : decode cX9_store 4 = .ok (.aload_n 0, 1) := by decide +kernel
theorem dX9_store_5 : decode cX9_store 5 = .ok (.getfield 10, 3) := by decide +kernel
theorem dX9_store_8 : decode cX9_store 8 = .ok (.invokevirtual 225, 3) := by decide +kernel
theorem dX9_store_11 : decode cX9_store 11 = .ok (.aload_n 0, 1) := by decide +kernel
theorem dX9_store_12 : decode cX9_store 12 = .ok (.iconst 1, 1) := by decide +kernel
theorem dX9_store_13 : decode cX9_store 13 = .ok (.putfield 221, 3) := by decide +kernel
theorem dX9_store_16 : decode cX9_store 16 = .ok (.aload_n 0, 1) := by decide +kernel
theorem dX9_store_17 : decode cX9_store 17 = .ok (.getfield 10, 3) := by decide +kernel
theorem dX9_store_20 : decode cX9_store 20 = .ok (.getfield 107, 3) := by decide +kernel
theorem dX9_store_23 : decode cX9_store 23 = .ok (.ireturn, 1) := by decide +kernel
set_option maxRecDepth 20000 in
theorem ggX9_recall_X5_keep : GoodIn wsX9_recall wsX5_keep := goodIn_r _ [9, 10, 11, 12, 13, 14, 15, 16, 17, 18, 19, 20, 21, 22, 23, 24, 25, 26, 27, 28, 29, 30, 31, 32, 33, 34, 35, 36, 37, 38, 39, 40, 41, 42, 43, 44, 45, 46, 47, 48, 49, 50, 51, 52, 53, 54, 55, 56, 57, 58, 59, 60, 61, 62, 63, 64, 65, 66, 67, 68, 69, 70, 71, 72, 73, 89, 90, 91, 81, 82, 83, 84, 85, 86, 87, 88, 92, 93, 94, 95, 96, 97, 98, 99, 100, 101, 102, 103, 104, 105, 106, 107, 108, 109, 110, 111] (by decide +kernel) (by decide +kernel)
set_option maxRecDepth 20000 in
theorem gX9_recall_X5_keep : GoodIn wsX9_recall (wsV RX9 40 RX5 yX5_keep wsX5_keep) := goodIn_app (goodIn_of _ (by decide +kernel)) ggX9_recall_X5_keep
set_option maxRecDepth 20000 in
theorem ggX9_recall_X7_become : GoodIn wsX9_recall wsX7_become := goodIn_r _ [17, 18, 19, 20, 21, 22, 23, 24, 25, 26, 27, 28, 29, 30, 31, 32, 33, 34, 35, 36, 37, 38, 39, 40, 41, 42, 43, 44, 45, 46, 47, 48, 49, 50, 51, 52, 53, 54, 55, 56, 57, 58, 59, 60, 61, 62, 63, 64, 65, 66, 67, 68, 69, 70, 71, 72, 73, 81, 82, 83, 84, 85, 86, 87, 88, 92, 93, 94, 95, 96, 97, 98, 99, 100, 101, 102, 103, 104, 105, 106, 107, 108, 109, 110, 111] (by decide +kernel) (by decide +kernel)
set_option maxRecDepth 20000 in
theorem gX9_recall_X7_become : GoodIn wsX9_recall (wsV RX9 225 RX7 yX7_become wsX7_become) := goodIn_app (goodIn_of _ (by decide +kernel)) ggX9_recall_X7_become
theorem dX9_recall_0 : decode cX9_recall 0 = .ok (.aload_n 0, 1) := by decide +kernel
theorem dX9_recall_1 : decode cX9_recall 1 = .ok (.getfield 221, 3) := by decide +kernel
theorem dX9_recall_4 : decode cX9_recall 4 = .ok (.ifCond .ne 6, 3) := by decide +kernel
theorem dX9_recall_7 : decode cX9_recall 7 = .ok (.bipush (-2), 2) := by decide +kernel
theorem dX9_recall_9 : decode cX9_recall 9 = .ok (.ireturn, 1) := by decide +kernel
theorem dX9_recall_10 : decode cX9_recall 10 = .ok (.aload_n 0, 1) := by decide +kernel
theorem dX9_recall_11 : decode cX9_recall 11 = .ok (.getfield 25, 3) := by decide +kernel
theorem dX9_recall_14 : decode cX9_recall 14 = .ok (.aload_n 0, 1) := by decide +kernel
theorem dX9_recall_15 : decode cX9_recall 15 = .ok (.getfield 10, 3) := by decide +kernel
theorem dX9_recall_18 : decode cX9_recall 18 = .ok (.invokevirtual 40, 3) := by decide +kernel
theorem dX9_recall_21 : decode cX9_recall 21 = .ok (.aload_n 0, 1) := by decide +kernel
theorem dX9_recall_22 : decode cX9_recall 22 = .ok (.getfield 10, 3) := by decide +kernel
theorem dX9_recall_25 : decode cX9_recall 25 = .ok (.aload_n 0, 1) := by decide +kernel
theorem dX9_recall_26 : decode cX9_recall 26 = .ok (.getfield 16, 3) := by decide +kernel
theorem dX9_recall_29 : decode cX9_recall 29 = .ok (.invokevirtual 225, 3) := by decide +kernel
theorem dX9_recall_32 : decode cX9_recall 32 = .ok (.aload_n 0, 1) := by decide +kernel
theorem dX9_recall_33 : decode cX9_recall 33 = .ok (.getfield 10, 3) := by decide +kernel
theorem dX9_recall_36 : decode cX9_recall 36 = .ok (.getfield 107, 3) := by decide +kernel
theorem dX9_recall_39 : decode cX9_recall 39 = .ok (.ireturn, 1) := by decide +kernel
set_option maxRecDepth 20000 in
theorem ggX9_compare_X9_isOutside : GoodIn wsX9_compare wsX9_isOutside := goodIn_r _ [8] (by decide +kernel) (by decide +kernel)
set_option maxRecDepth 20000 in
theorem gX9_compare_X9_isOutside : GoodIn wsX9_compare (va_wsS RX9 36 yX9_isOutside wsX9_isOutside) := goodIn_app (goodIn_of _ (by decide +kernel)) ggX9_compare_X9_isOutside
set_option maxRecDepth 20000 in
theorem ggX9_compare_X2_differences : GoodIn wsX9_compare wsX2_differences := goodIn_r _ [13, 14, 15, 16, 12, 17, 18, 73] (by decide +kernel) (by decide +kernel)
set_option maxRecDepth 20000 in
theorem gX9_compare_X2_differences : GoodIn wsX9_compare (wsV RX9 248 RX2 yX2_differences wsX2_differences) := goodIn_app (goodIn_of _ (by decide +kernel)) ggX9_compare_X2_differences
set_option maxRecDepth 20000 in
theorem ggX9_compare_X4_isLike : GoodIn wsX9_compare wsX4_isLike := goodIn_r _ [23, 24, 25, 26, 74, 75, 76, 77, 78] (by decide +kernel) (by decide +kernel)
set_option maxRecDepth 20000 in
theorem gX9_compare_X4_isLike : GoodIn wsX9_compare (wsV RX9 252 RX4 yX4_isLike wsX4_isLike) := goodIn_app (goodIn_of _ (by decide +kernel)) ggX9_compare_X4_isLike
set_option maxRecDepth 20000 in
theorem ggX9_compare_X1_differences : GoodIn wsX9_compare wsX1_differences := goodIn_r _ [31, 32, 33, 34, 30, 35, 36, 37, 38, 39, 40, 41, 42, 43, 44, 45, 46, 47, 48, 49, 50, 51, 52, 53, 54, 55, 56, 57, 58, 79, 80, 81, 82, 83, 84, 85] (by decide +kernel) (by decide +kernel)
set_option maxRecDepth 20000 in
theorem gX9_compare_X1_differences : GoodIn wsX9_compare (wsV RX9 256 RX1 yX1_differences wsX1_differences) := goodIn_app (goodIn_of _ (by decide +kernel)) ggX9_compare_X1_differences
theorem dX9_compare_0 : decode cX9_compare 0 = .ok (.iload_n 1, 1) := by decide +kernel
theorem dX9_compare_1 : decode cX9_compare 1 = .ok (.iconst 0, 1) := by decide +kernel
theorem dX9_compare_2 : decode cX9_compare 2 = .ok (.iconst 3, 1) := by decide +kernel
theorem dX9_compare_3 : decode cX9_compare 3 = .ok (.invokestatic 36, 3) := by decide +kernel
theorem dX9_compare_6 : decode cX9_compare 6 = .ok (.ifCond .eq 5, 3) := by decide +kernel
theorem dX9_compare_9 : decode cX9_compare 9 = .ok (.iconst (-1), 1) := by decide +kernel
theorem dX9_compare_10 : decode cX9_compare 10 = .ok (.ireturn, 1) := by decide +kernel
theorem dX9_compare_11 : decode cX9_compare 11 = .ok (.aload_n 0, 1) := by decide +kernel
theorem dX9_compare_12 : decode cX9_compare 12 = .ok (.getfield 221, 3) := by decide +kernel
theorem dX9_compare_15 : decode cX9_compare 15 = .ok (.ifCond .ne 6, 3) := by decide +kernel
theorem dX9_compare_18 : decode cX9_compare 18 = .ok (.bipush (-2), 2) := by decide +kernel
theorem dX9_compare_20 : decode cX9_compare 20 = .ok (.ireturn, 1) := by decide +kernel
theorem dX9_compare_21 : decode cX9_compare 21 = .ok (.iload_n 1, 1) := by decide +kernel
theorem dX9_compare_22 : decode cX9_compare 22 = .ok (.tableswitch 88 0 2 #[26, 44, 70], 26) := by decide +kernel
theorem dX9_compare_48 : decode cX9_compare 48 = .ok (.aload_n 0, 1) := by decide +kernel
theorem dX9_compare_49 : decode cX9_compare 49 = .ok (.getfield 10, 3) := by decide +kernel
theorem dX9_compare_52 : decode cX9_compare 52 = .ok (.getfield 44, 3) := by decide +kernel
theorem dX9_compare_55 : decode cX9_compare 55 = .ok (.aload_n 0, 1) := by decide +kernel
theorem dX9_compare_56 : decode cX9_compare 56 = .ok (.getfield 16, 3) := by decide +kernel
theorem dX9_compare_59 : decode cX9_compare 59 = .ok (.getfield 44, 3) := by decide +kernel
theorem dX9_compare_62 : decode cX9_compare 62 = .ok (.invokevirtual 248, 3) := by decide +kernel
theorem dX9_compare_65 : decode cX9_compare 65 = .ok (.ireturn, 1) := by decide +kernel
theorem dX9_compare_66 : decode cX9_compare 66 = .ok (.aload_n 0, 1) := by decide +kernel
theorem dX9_compare_67 : decode cX9_compare 67 = .ok (.getfield 10, 3) := by decide +kernel
theorem dX9_compare_70 : decode cX9_compare 70 = .ok (.getfield 77, 3) := by decide +kernel
theorem dX9_compare_73 : decode cX9_compare 73 = .ok (.aload_n 0, 1) := by decide +kernel
theorem dX9_compare_74 : decode cX9_compare 74 = .ok (.getfield 16, 3) := by decide +kernel
theorem dX9_compare_77 : decode cX9_compare 77 = .ok (.getfield 77, 3) := by decide +kernel
theorem dX9_compare_80 : decode cX9_compare 80 = .ok (.invokevirtual 252, 3) := by decide +kernel
theorem dX9_compare_83 : decode cX9_compare 83 = .ok (.ifCond .eq 7, 3) := by decide +kernel
theorem dX9_compare_86 : decode cX9_compare 86 = .ok (.iconst 0, 1) := by decide +kernel
theorem dX9_compare_87 : decode cX9_compare 87 = .ok (.goto 4, 3) := by decide +kernel
theorem dX9_compare_90 : decode cX9_compare 90 = .ok (.iconst 1, 1) := by decide +kernel
theorem dX9_compare_91 : decode cX9_compare 91 = .ok (.ireturn, 1) := by decide +kernel
theorem dX9_compare_92 : decode cX9_compare 92 = .ok (.aload_n 0, 1) := by decide +kernel
theorem dX9_compare_93 : decode cX9_compare 93 = .ok (.getfield 10, 3) := by decide +kernel
theorem dX9_compare_96 : decode cX9_compare 96 = .ok (.getfield 124, 3) := by decide +kernel
theorem dX9_compare_99 : decode cX9_compare 99 = .ok (.aload_n 0, 1) := by decide +kernel
theorem dX9_compare_100 : decode cX9_compare 100 = .ok (.getfield 16, 3) := by decide +kernel
theorem dX9_compare_103 : decode cX9_compare 103 = .ok (.getfield 124, 3) := by decide +kernel
theorem dX9_compare_106 : decode cX9_compare 106 = .ok (.invokevirtual 256, 3) := by decide +kernel
theorem dX9_compare_109 : decode cX9_compare 109 = .ok (.ireturn, 1) := by decide +kernel
theorem dX9_compare_110 : decode cX9_compare 110 = .ok (.aload_n 0, 1) := by decide +kernel
theorem dX9_compare_111 : decode cX9_compare 111 = .ok (.getfield 10, 3) := by decide +kernel
theorem dX9_compare_114 : decode cX9_compare 114 = .ok (.getfield 107, 3) := by decide +kernel
theorem dX9_compare_117 : decode cX9_compare 117 = .ok (.aload_n 0, 1) := by decide +kernel
theorem dX9_compare_118 : decode cX9_compare 118 = .ok (.getfield 16, 3) := by decide +kernel
theorem dX9_compare_121 : decode cX9_compare 121 = .ok (.getfield 107, 3) := by decide +kernel
theorem dX9_compare_124 : decode cX9_compare 124 = .ok (.isub, 1) := by decide +kernel
theorem dX9_compare_125 : decode cX9_compare 125 = .ok (.ldc 178, 2) := by decide +kernel
theorem dX9_compare_127 : decode cX9_compare 127 = .ok (.iadd, 1) := by decide +kernel
theorem dX9_compare_128 : decode cX9_compare 128 = .ok (.ireturn, 1) := by decide +kernel
set_option maxRecDepth 20000 in
theorem ggX9_undo_X5_giveBack : GoodIn wsX9_undo wsX5_giveBack := goodIn_r _ [7, 8, 9, 10, 11, 12, 13, 14, 15, 16, 17, 18, 19, 20, 21, 22, 23, 24, 25, 26, 27, 28, 29, 30, 31, 32, 33, 34, 35, 36, 37, 38, 39, 40, 41, 42, 43, 44, 45, 46, 47, 48, 49, 50, 51, 52, 53, 54, 55, 56, 57, 58, 59, 60, 61, 62, 63, 64, 65, 66, 67, 68, 69, 70, 71, 78, 79, 80, 81, 82, 83, 84, 85, 86, 87, 88, 89, 90, 91, 92, 93, 94, 95, 96, 97, 98, 99, 100, 101, 102, 103, 104, 105, 106, 107, 108] (by decide +kernel) (by decide +kernel)
set_option maxRecDepth 20000 in
theorem gX9_undo_X5_giveBack : GoodIn wsX9_undo (wsV RX9 259 RX5 yX5_giveBack wsX5_giveBack) := goodIn_app (goodIn_of _ (by decide +kernel)) ggX9_undo_X5_giveBack
theorem dX9_undo_0 : decode cX9_undo 0 = .ok (.aload_n 0, 1) := by decide +kernel
theorem dX9_undo_1 : decode cX9_undo 1 = .ok (.getfield 25, 3) := by decide +kernel
theorem dX9_undo_4 : decode cX9_undo 4 = .ok (.getfield 215, 3) := by decide +kernel
theorem dX9_undo_7 : decode cX9_undo 7 = .ok (.ifCond .ne 6, 3) := by decide +kernel
theorem dX9_undo_10 : decode cX9_undo 10 = .ok (.bipush (-2), 2) := by decide +kernel
theorem dX9_undo_12 : decode cX9_undo 12 = .ok (.ireturn, 1) := by decide +kernel
theorem dX9_undo_13 : decode cX9_undo 13 = .ok (.aload_n 0, 1) := by decide +kernel
theorem dX9_undo_14 : decode cX9_undo 14 = .ok (.getfield 25, 3) := by decide +kernel
theorem dX9_undo_17 : decode cX9_undo 17 = .ok (.aload_n 0, 1) := by decide +kernel
theorem dX9_undo_18 : decode cX9_undo 18 = .ok (.getfield 10, 3) := by decide +kernel
theorem dX9_undo_21 : decode cX9_undo 21 = .ok (.invokevirtual 259, 3) := by decide +kernel
theorem dX9_undo_24 : decode cX9_undo 24 = .ok (.aload_n 0, 1) := by decide +kernel
theorem dX9_undo_25 : decode cX9_undo 25 = .ok (.getfield 25, 3) := by decide +kernel
theorem dX9_undo_28 : decode cX9_undo 28 = .ok (.getfield 215, 3) := by decide +kernel
theorem dX9_undo_31 : decode cX9_undo 31 = .ok (.ireturn, 1) := by decide +kernel
set_option maxRecDepth 20000 in
theorem ggX9_type_X9_isOutside : GoodIn wsX9_type wsX9_isOutside := goodIn_r _ [5] (by decide +kernel) (by decide +kernel)
set_option maxRecDepth 20000 in
theorem gX9_type_X9_isOutside : GoodIn wsX9_type (va_wsS RX9 36 yX9_isOutside wsX9_isOutside) := goodIn_app (goodIn_of _ (by decide +kernel)) ggX9_type_X9_isOutside
set_option maxRecDepth 20000 in
theorem ggX9_type_X8_isFull : GoodIn wsX9_type wsX8_isFull := goodIn_r _ [10, 11, 23, 24, 25, 26, 27, 28, 29] (by decide +kernel) (by decide +kernel)
set_option maxRecDepth 20000 in
theorem gX9_type_X8_isFull : GoodIn wsX9_type (wsV RX9 262 RX8 yX8_isFull wsX8_isFull) := goodIn_app (goodIn_of _ (by decide +kernel)) ggX9_type_X8_isFull
set_option maxRecDepth 20000 in
theorem ggX9_type_X8_append : GoodIn wsX9_type wsX8_append := goodIn_r _ [15, 11, 16, 23, 24, 25, 26, 27, 28, 29] (by decide +kernel) (by decide +kernel)
set_option maxRecDepth 20000 in
theorem gX9_type_X8_append : GoodIn wsX9_type (wsV RX9 263 RX8 yX8_append wsX8_append) := goodIn_app (goodIn_of _ (by decide +kernel)) ggX9_type_X8_append
theorem dX9_type_0 : decode cX9_type 0 = .ok (.iload_n 1, 1) := by decide +kernel
theorem dX9_type_1 : decode cX9_type 1 = .ok (.bipush 32, 2) := by decide +kernel
theorem dX9_type_3 : decode cX9_type 3 = .ok (.bipush 126, 2) := by decide +kernel
theorem dX9_type_5 : decode cX9_type 5 = .ok (.invokestatic 36, 3) := by decide +kernel
theorem dX9_type_8 : decode cX9_type 8 = .ok (.ifCond .eq 5, 3) := by decide +kernel
theorem dX9_type_11 : decode cX9_type 11 = .ok (.iconst (-1), 1) := by decide +kernel
theorem dX9_type_12 : decode cX9_type 12 = .ok (.ireturn, 1) := by decide +kernel
theorem dX9_type_13 : decode cX9_type 13 = .ok (.aload_n 0, 1) := by decide +kernel
theorem dX9_type_14 : decode cX9_type 14 = .ok (.getfield 32, 3) := by decide +kernel
theorem dX9_type_17 : decode cX9_type 17 = .ok (.invokevirtual 262, 3) := by decide +kernel
theorem dX9_type_20 : decode cX9_type 20 = .ok (.ifCond .eq 6, 3) := by decide +kernel
theorem dX9_type_23 : decode cX9_type 23 = .ok (.bipush (-3), 2) := by decide +kernel
theorem dX9_type_25 : decode cX9_type 25 = .ok (.ireturn, 1) := by decide +kernel
theorem dX9_type_26 : decode cX9_type 26 = .ok (.aload_n 0, 1) := by decide +kernel
theorem dX9_type_27 : decode cX9_type 27 = .ok (.getfield 32, 3) := by decide +kernel
theorem dX9_type_30 : decode cX9_type 30 = .ok (.iload_n 1, 1) := by decide +kernel
theorem dX9_type_31 : decode cX9_type 31 = .ok (.i2c, 1) := by decide +kernel
theorem dX9_type_32 : decode cX9_type 32 = .ok (.invokevirtual 263, 3) := by decide +kernel
theorem dX9_type_35 : decode cX9_type 35 = .ok (.aload_n 0, 1) := by decide +kernel
theorem dX9_type_36 : decode cX9_type 36 = .ok (.getfield 32, 3) := by decide +kernel
theorem dX9_type_39 : decode cX9_type 39 = .ok (.getfield 218, 3) := by decide +kernel
theorem dX9_type_42 : decode cX9_type 42 = .ok (.ireturn, 1) := by decide +kernel
set_option maxRecDepth 20000 in
theorem ggX9_fault_X9_isOutside : GoodIn wsX9_fault wsX9_isOutside := goodIn_r _ [7] (by decide +kernel) (by decide +kernel)
set_option maxRecDepth 20000 in
theorem gX9_fault_X9_isOutside : GoodIn wsX9_fault (va_wsS RX9 36 yX9_isOutside wsX9_isOutside) := goodIn_app (goodIn_of _ (by decide +kernel)) ggX9_fault_X9_isOutside
set_option maxRecDepth 20000 in
theorem ggX9_fault_X7_become : GoodIn wsX9_fault wsX7_become := goodIn_r _ [12, 13, 14, 15, 16, 17, 18, 19, 20, 21, 22, 23, 24, 25, 26, 27, 28, 29, 30, 31, 32, 33, 34, 35, 36, 37, 38, 39, 40, 41, 42, 43, 44, 45, 46, 47, 48, 49, 50, 51, 52, 53, 54, 55, 56, 57, 58, 59, 60, 61, 62, 63, 64, 65, 66, 67, 68, 235, 236, 237, 238, 239, 240, 241, 242, 243, 244, 245, 246, 247, 248, 249, 250, 251, 252, 253, 254, 255, 256, 257, 258, 259, 260, 261, 262] (by decide +kernel) (by decide +kernel)
set_option maxRecDepth 20000 in
theorem gX9_fault_X7_become : GoodIn wsX9_fault (wsV RX9 225 RX7 yX7_become wsX7_become) := goodIn_app (goodIn_of _ (by decide +kernel)) ggX9_fault_X7_become
set_option maxRecDepth 20000 in
theorem ggX9_fault_X8_carryOut : GoodIn wsX9_fault wsX8_carryOut := goodIn_r _ [73, 74, 75, 76, 77, 78, 79, 80, 81, 72, 82, 83, 84, 85, 86, 87, 88, 89, 90, 91, 92, 93, 94, 95, 96, 97, 98, 99, 100, 101, 102, 103, 104, 105, 106, 107, 108, 109, 110, 111, 112, 113, 114, 115, 116, 117, 118, 119, 120, 121, 122, 123, 124, 125, 126, 127, 128, 129, 130, 131, 132, 133, 134, 135, 136, 137, 138, 139, 140, 141, 142, 143, 144, 145, 146, 147, 148, 149, 150, 151, 152, 153, 154, 155, 156, 157, 158, 159, 160, 161, 162, 163, 28, 164, 30, 165, 166, 167, 168, 169, 170, 171, 172, 35, 173, 40, 41, 42, 174, 175, 176, 177, 37, 39, 178, 179, 180, 181, 182, 183, 184, 185, 186, 187, 188, 46, 189, 52, 53, 55, 190, 191, 192, 193, 48, 50, 51, 194, 195, 196, 197, 198, 199, 200, 201, 202, 203, 204, 205, 206, 207, 208, 209, 210, 211, 212, 213, 214, 215, 216, 217, 218, 219, 220, 221, 228, 229, 230, 231, 232, 233, 234, 235, 236, 237, 238, 239, 240, 241, 242, 243, 244, 245, 246, 247, 248, 249, 250, 251, 252, 253, 254, 255] (by decide +kernel) (by decide +kernel)
set_option maxRecDepth 20000 in
theorem gX9_fault_X8_carryOut : GoodIn wsX9_fault (wsV RX9 266 RX8 yX8_carryOut wsX8_carryOut) := goodIn_app (goodIn_of _ (by decide +kernel)) ggX9_fault_X8_carryOut
theorem dX9_fault_0 : decode cX9_fault 0 = .ok (.iload_n 1, 1) := by decide +kernel
theorem dX9_fault_1 : decode cX9_fault 1 = .ok (.iconst 0, 1) := by decide +kernel
theorem dX9_fault_2 : decode cX9_fault 2 = .ok (.iconst 1, 1) := by decide +kernel
theorem dX9_fault_3 : decode cX9_fault 3 = .ok (.invokestatic 36, 3) := by decide +kernel
theorem dX9_fault_6 : decode cX9_fault 6 = .ok (.ifCond .eq 5, 3) := by decide +kernel
theorem dX9_fault_9 : decode cX9_fault 9 = .ok (.iconst (-1), 1) := by decide +kernel
theorem dX9_fault_10 : decode cX9_fault 10 = .ok (.ireturn, 1) := by decide +kernel
theorem dX9_fault_11 : decode cX9_fault 11 = .ok (.aload_n 0, 1) := by decide +kernel
theorem dX9_fault_12 : decode cX9_fault 12 = .ok (.getfield 19, 3) := by decide +kernel
theorem dX9_fault_15 : decode cX9_fault 15 = .ok (.aload_n 0, 1) := by decide +kernel
theorem dX9_fault_16 : decode cX9_fault 16 = .ok (.getfield 10, 3) := by decide +kernel
theorem dX9_fault_19 : decode cX9_fault 19 = .ok (.invokevirtual 225, 3) := by decide +kernel
theorem dX9_fault_22 : decode cX9_fault 22 = .ok (.aload_n 0, 1) := by decide +kernel
theorem dX9_fault_23 : decode cX9_fault 23 = .ok (.getfield 32, 3) := by decide +kernel
theorem dX9_fault_26 : decode cX9_fault 26 = .ok (.aload_n 0, 1) := by decide +kernel
theorem dX9_fault_27 : decode cX9_fault 27 = .ok (.getfield 19, 3) := by decide +kernel
theorem dX9_fault_30 : decode cX9_fault 30 = .ok (.invokevirtual 266, 3) := by decide +kernel
theorem dX9_fault_33 : decode cX9_fault 33 = .ok (.ifCond .eq 6, 3) := by decide +kernel
theorem dX9_fault_36 : decode cX9_fault 36 = .ok (.bipush (-4), 2) := by decide +kernel
theorem dX9_fault_38 : decode cX9_fault 38 = .ok (.ireturn, 1) := by decide +kernel
theorem dX9_fault_39 : decode cX9_fault 39 = .ok (.iload_n 1, 1) := by decide +kernel
theorem dX9_fault_40 : decode cX9_fault 40 = .ok (.ifCond .ne 13, 3) := by decide +kernel
theorem dX9_fault_43 : decode cX9_fault 43 = .ok (.aload_n 0, 1) := by decide +kernel
theorem dX9_fault_44 : decode cX9_fault 44 = .ok (.getfield 32, 3) := by decide +kernel
theorem dX9_fault_47 : decode cX9_fault 47 = .ok (.getfield 270, 3) := by decide +kernel
theorem dX9_fault_50 : decode cX9_fault 50 = .ok (.goto 10, 3) := by decide +kernel
theorem dX9_fault_53 : decode cX9_fault 53 = .ok (.aload_n 0, 1) := by decide +kernel
theorem dX9_fault_54 : decode cX9_fault 54 = .ok (.getfield 32, 3) := by decide +kernel
theorem dX9_fault_57 : decode cX9_fault 57 = .ok (.getfield 273, 3) := by decide +kernel
theorem dX9_fault_60 : decode cX9_fault 60 = .ok (.ireturn, 1) := by decide +kernel
set_option maxRecDepth 20000 in
theorem ggX9_load_X7_become : GoodIn wsX9_load wsX7_become := goodIn_r _ [9, 10, 11, 12, 13, 14, 15, 16, 17, 18, 19, 20, 21, 22, 23, 24, 25, 26, 27, 28, 29, 30, 31, 32, 33, 34, 35, 36, 37, 38, 39, 40, 41, 42, 43, 44, 45, 46, 47, 48, 49, 50, 51, 52, 53, 54, 55, 56, 57, 58, 59, 60, 61, 62, 63, 64, 65, 241, 242, 243, 244, 245, 246, 247, 248, 249, 250, 251, 252, 253, 254, 255, 256, 257, 258, 259, 260, 261, 262, 263, 264, 265, 266, 267, 268] (by decide +kernel) (by decide +kernel)
set_option maxRecDepth 20000 in
theorem gX9_load_X7_become : GoodIn wsX9_load (wsV RX9 225 RX7 yX7_become wsX7_become) := goodIn_app (goodIn_of _ (by decide +kernel)) ggX9_load_X7_become
set_option maxRecDepth 20000 in
theorem ggX9_load_X8_carryOut : GoodIn wsX9_load wsX8_carryOut := goodIn_r _ [70, 71, 72, 73, 74, 75, 76, 77, 78, 69, 79, 80, 81, 82, 83, 84, 85, 86, 87, 88, 89, 90, 91, 92, 93, 94, 95, 96, 97, 98, 99, 100, 101, 102, 103, 104, 105, 106, 107, 108, 109, 110, 111, 112, 113, 114, 115, 116, 117, 118, 119, 120, 121, 122, 123, 124, 125, 126, 127, 128, 129, 130, 131, 132, 133, 134, 135, 136, 137, 138, 139, 140, 141, 142, 143, 144, 145, 146, 147, 148, 149, 150, 151, 152, 153, 154, 155, 156, 157, 158, 159, 160, 25, 161, 27, 162, 163, 164, 165, 166, 167, 168, 169, 32, 170, 37, 38, 39, 171, 172, 173, 174, 34, 36, 175, 176, 177, 178, 179, 180, 181, 182, 183, 184, 185, 43, 186, 49, 50, 52, 187, 188, 189, 190, 45, 47, 48, 191, 192, 193, 194, 195, 196, 197, 198, 199, 200, 201, 202, 203, 204, 205, 206, 207, 208, 209, 210, 211, 212, 213, 214, 215, 216, 217, 218, 234, 235, 236, 237, 238, 239, 240, 241, 242, 243, 244, 245, 246, 247, 248, 249, 250, 251, 252, 253, 254, 255, 256, 257, 258, 259, 260, 261] (by decide +kernel) (by decide +kernel)
set_option maxRecDepth 20000 in
theorem gX9_load_X8_carryOut : GoodIn wsX9_load (wsV RX9 266 RX8 yX8_carryOut wsX8_carryOut) := goodIn_app (goodIn_of _ (by decide +kernel)) ggX9_load_X8_carryOut
set_option maxRecDepth 20000 in
theorem ggX9_load_X5_keep : GoodIn wsX9_load wsX5_keep := goodIn_r _ [223, 224, 225, 226, 227, 6, 7, 8, 9, 10, 11, 12, 13, 14, 15, 16, 17, 18, 19, 20, 21, 22, 23, 24, 25, 26, 27, 28, 29, 30, 31, 32, 33, 34, 35, 36, 37, 38, 39, 40, 41, 42, 43, 44, 45, 46, 47, 48, 49, 50, 51, 52, 53, 54, 55, 56, 57, 58, 59, 60, 61, 62, 63, 64, 65, 269, 270, 271, 241, 242, 243, 244, 245, 246, 247, 248, 249, 250, 251, 252, 253, 254, 255, 256, 257, 258, 259, 260, 261, 262, 263, 264, 265, 266, 267, 268] (by decide +kernel) (by decide +kernel)
set_option maxRecDepth 20000 in
theorem gX9_load_X5_keep : GoodIn wsX9_load (wsV RX9 40 RX5 yX5_keep wsX5_keep) := goodIn_app (goodIn_of _ (by decide +kernel)) ggX9_load_X5_keep
theorem dX9_load_0 : decode cX9_load 0 = .ok (.aload_n 0, 1) := by decide +kernel
theorem dX9_load_1 : decode cX9_load 1 = .ok (.getfield 19, 3) := by decide +kernel
theorem dX9_load_4 : decode cX9_load 4 = .ok (.aload_n 0, 1) := by decide +kernel
theorem dX9_load_5 : decode cX9_load 5 = .ok (.getfield 10, 3) := by decide +kernel
theorem dX9_load_8 : decode cX9_load 8 = .ok (.invokevirtual 225, 3) := by decide +kernel
theorem dX9_load_11 : decode cX9_load 11 = .ok (.aload_n 0, 1) := by decide +kernel
theorem dX9_load_12 : decode cX9_load 12 = .ok (.getfield 32, 3) := by decide +kernel
theorem dX9_load_15 : decode cX9_load 15 = .ok (.aload_n 0, 1) := by decide +kernel
theorem dX9_load_16 : decode cX9_load 16 = .ok (.getfield 19, 3) := by decide +kernel
theorem dX9_load_19 : decode cX9_load 19 = .ok (.invokevirtual 266, 3) := by decide +kernel
theorem dX9_load_22 : decode cX9_load 22 = .ok (.ifCond .ne 6, 3) := by decide +kernel
theorem dX9_load_25 : decode cX9_load 25 = .ok (.bipush (-2), 2) := by decide +kernel
theorem dX9_load_27 : decode cX9_load 27 = .ok (.ireturn, 1) := by decide +kernel
theorem dX9_load_28 : decode cX9_load 28 = .ok (.aload_n 0, 1) := by decide +kernel
theorem dX9_load_29 : decode cX9_load 29 = .ok (.getfield 25, 3) := by decide +kernel
theorem dX9_load_32 : decode cX9_load 32 = .ok (.aload_n 0, 1) := by decide +kernel
theorem dX9_load_33 : decode cX9_load 33 = .ok (.getfield 10, 3) := by decide +kernel
theorem dX9_load_36 : decode cX9_load 36 = .ok (.invokevirtual 40, 3) := by decide +kernel
theorem dX9_load_39 : decode cX9_load 39 = .ok (.aload_n 0, 1) := by decide +kernel
theorem dX9_load_40 : decode cX9_load 40 = .ok (.getfield 10, 3) := by decide +kernel
theorem dX9_load_43 : decode cX9_load 43 = .ok (.aload_n 0, 1) := by decide +kernel
theorem dX9_load_44 : decode cX9_load 44 = .ok (.getfield 19, 3) := by decide +kernel
theorem dX9_load_47 : decode cX9_load 47 = .ok (.invokevirtual 225, 3) := by decide +kernel
theorem dX9_load_50 : decode cX9_load 50 = .ok (.aload_n 0, 1) := by decide +kernel
theorem dX9_load_51 : decode cX9_load 51 = .ok (.getfield 32, 3) := by decide +kernel
theorem dX9_load_54 : decode cX9_load 54 = .ok (.getfield 276, 3) := by decide +kernel
theorem dX9_load_57 : decode cX9_load 57 = .ok (.ireturn, 1) := by decide +kernel
theorem dX9_isOutside_0 : decode cX9_isOutside 0 = .ok (.iload_n 0, 1) := by decide +kernel
theorem dX9_isOutside_1 : decode cX9_isOutside 1 = .ok (.iload_n 1, 1) := by decide +kernel
theorem dX9_isOutside_2 : decode cX9_isOutside 2 = .ok (.if_icmp .lt 8, 3) := by decide +kernel
theorem dX9_isOutside_5 : decode cX9_isOutside 5 = .ok (.iload_n 0, 1) := by decide +kernel
theorem dX9_isOutside_6 : decode cX9_isOutside 6 = .ok (.iload_n 2, 1) := by decide +kernel
theorem dX9_isOutside_7 : decode cX9_isOutside 7 = .ok (.if_icmp .le 7, 3) := by decide +kernel
theorem dX9_isOutside_10 : decode cX9_isOutside 10 = .ok (.iconst 1, 1) := by decide +kernel
theorem dX9_isOutside_11 : decode cX9_isOutside 11 = .ok (.goto 4, 3) := by decide +kernel
theorem dX9_isOutside_14 : decode cX9_isOutside 14 = .ok (.iconst 0, 1) := by decide +kernel
theorem dX9_isOutside_15 : decode cX9_isOutside 15 = .ok (.ireturn, 1) := by decide +kernel
set_option maxRecDepth 20000 in
theorem ggX9_isFar_X9_isOutside : GoodIn wsX9_isFar wsX9_isOutside := goodIn_r _ [4] (by decide +kernel) (by decide +kernel)
set_option maxRecDepth 20000 in
theorem gX9_isFar_X9_isOutside : GoodIn wsX9_isFar (va_wsS RX9 36 yX9_isOutside wsX9_isOutside) := goodIn_app (goodIn_of _ (by decide +kernel)) ggX9_isFar_X9_isOutside
theorem dX9_isFar_0 : decode cX9_isFar 0 = .ok (.iload_n 0, 1) := by decide +kernel
theorem dX9_isFar_1 : decode cX9_isFar 1 = .ok (.sipush (-10000), 3) := by decide +kernel
theorem dX9_isFar_4 : decode cX9_isFar 4 = .ok (.sipush 10000, 3) := by decide +kernel
theorem dX9_isFar_7 : decode cX9_isFar 7 = .ok (.invokestatic 36, 3) := by decide +kernel
theorem dX9_isFar_10 : decode cX9_isFar 10 = .ok (.ireturn, 1) := by decide +kernel
