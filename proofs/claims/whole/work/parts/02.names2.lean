theorem dX1_isInfinite_5 : decode cX1_isInfinite 5 = .ok (.ldc2_w 11, 3) := by decide +kernel
theorem dX1_isInfinite_8 : decode cX1_isInfinite 8 = .ok (.lcmp, 1) := by decide +kernel
theorem dX1_isInfinite_9 : decode cX1_isInfinite 9 = .ok (.ifCond .ne 7, 3) := by decide +kernel
theorem dX1_isInfinite_12 : decode cX1_isInfinite 12 = .ok (.iconst 1, 1) := by decide +kernel
theorem dX1_isInfinite_13 : decode cX1_isInfinite 13 = .ok (.goto 4, 3) := by decide +kernel
theorem dX1_isInfinite_16 : decode cX1_isInfinite 16 = .ok (.iconst 0, 1) := by decide +kernel
theorem dX1_isInfinite_17 : decode cX1_isInfinite 17 = .ok (.ireturn, 1) := by decide +kernel
theorem dX1_isAboveZero_0 : decode cX1_isAboveZero 0 = .ok (.lload_n 0, 1) := by decide +kernel
theorem dX1_isAboveZero_1 : decode cX1_isAboveZero 1 = .ok (.lconst 0, 1) := by decide +kernel
theorem dX1_isAboveZero_2 : decode cX1_isAboveZero 2 = .ok (.lcmp, 1) := by decide +kernel
theorem dX1_isAboveZero_3 : decode cX1_isAboveZero 3 = .ok (.ifCond .le 7, 3) := by decide +kernel
theorem dX1_isAboveZero_6 : decode cX1_isAboveZero 6 = .ok (.iconst 1, 1) := by decide +kernel
theorem dX1_isAboveZero_7 : decode cX1_isAboveZero 7 = .ok (.goto 4, 3) := by decide +kernel
theorem dX1_isAboveZero_10 : decode cX1_isAboveZero 10 = .ok (.iconst 0, 1) := by decide +kernel
theorem dX1_isAboveZero_11 : decode cX1_isAboveZero 11 = .ok (.ireturn, 1) := by decide +kernel
theorem dX1_opposite_0 : decode cX1_opposite 0 = .ok (.lload_n 0, 1) := by decide +kernel
theorem dX1_opposite_1 : decode cX1_opposite 1 = .ok (.ldc2_w 13, 3) := by decide +kernel
theorem dX1_opposite_4 : decode cX1_opposite 4 = .ok (.lxor, 1) := by decide +kernel
theorem dX1_opposite_5 : decode cX1_opposite 5 = .ok (.lreturn, 1) := by decide +kernel
theorem dX1_withSignOf_0 : decode cX1_withSignOf 0 = .ok (.lload_n 0, 1) := by decide +kernel
theorem dX1_withSignOf_1 : decode cX1_withSignOf 1 = .ok (.ldc2_w 9, 3) := by decide +kernel
theorem dX1_withSignOf_4 : decode cX1_withSignOf 4 = .ok (.land, 1) := by decide +kernel
theorem dX1_withSignOf_5 : decode cX1_withSignOf 5 = .ok (.lload_n 2, 1) := by decide +kernel
theorem dX1_withSignOf_6 : decode cX1_withSignOf 6 = .ok (.ldc2_w 13, 3) := by decide +kernel
theorem dX1_withSignOf_9 : decode cX1_withSignOf 9 = .ok (.land, 1) := by decide +kernel
theorem dX1_withSignOf_10 : decode cX1_withSignOf 10 = .ok (.lor, 1) := by decide +kernel
theorem dX1_withSignOf_11 : decode cX1_withSignOf 11 = .ok (.lreturn, 1) := by decide +kernel
set_option maxRecDepth 20000 in
theorem ggX1_unit_X1_withSignOf : GoodIn wsX1_unit wsX1_withSignOf := goodIn_r _ [6, 1, 7] (by decide +kernel) (by decide +kernel)
set_option maxRecDepth 20000 in
theorem gX1_unit_X1_withSignOf : GoodIn wsX1_unit (va_wsS RX1 17 yX1_withSignOf wsX1_withSignOf) := goodIn_app (goodIn_of _ (by decide +kernel)) ggX1_unit_X1_withSignOf
theorem dX1_unit_0 : decode cX1_unit 0 = .ok (.lload_n 0, 1) := by decide +kernel
theorem dX1_unit_1 : decode cX1_unit 1 = .ok (.ldc2_w 9, 3) := by decide +kernel
theorem dX1_unit_4 : decode cX1_unit 4 = .ok (.land, 1) := by decide +kernel
theorem dX1_unit_5 : decode cX1_unit 5 = .ok (.lconst 0, 1) := by decide +kernel
theorem dX1_unit_6 : decode cX1_unit 6 = .ok (.lcmp, 1) := by decide +kernel
theorem dX1_unit_7 : decode cX1_unit 7 = .ok (.ifCond .ne 7, 3) := by decide +kernel
theorem dX1_unit_10 : decode cX1_unit 10 = .ok (.lload_n 0, 1) := by decide +kernel
theorem dX1_unit_11 : decode cX1_unit 11 = .ok (.goto 10, 3) := by decide +kernel
theorem dX1_unit_14 : decode cX1_unit 14 = .ok (.ldc2_w 15, 3) := by decide +kernel
theorem dX1_unit_17 : decode cX1_unit 17 = .ok (.lload_n 0, 1) := by decide +kernel
theorem dX1_unit_18 : decode cX1_unit 18 = .ok (.invokestatic 17, 3) := by decide +kernel
theorem dX1_unit_21 : decode cX1_unit 21 = .ok (.lreturn, 1) := by decide +kernel
theorem dX1_rank_0 : decode cX1_rank 0 = .ok (.lload_n 0, 1) := by decide +kernel
theorem dX1_rank_1 : decode cX1_rank 1 = .ok (.lconst 0, 1) := by decide +kernel
theorem dX1_rank_2 : decode cX1_rank 2 = .ok (.lcmp, 1) := by decide +kernel
theorem dX1_rank_3 : decode cX1_rank 3 = .ok (.ifCond .ge 11, 3) := by decide +kernel
theorem dX1_rank_6 : decode cX1_rank 6 = .ok (.lload_n 0, 1) := by decide +kernel
theorem dX1_rank_7 : decode cX1_rank 7 = .ok (.ldc2_w 9, 3) := by decide +kernel
theorem dX1_rank_10 : decode cX1_rank 10 = .ok (.lxor, 1) := by decide +kernel
theorem dX1_rank_11 : decode cX1_rank 11 = .ok (.goto 4, 3) := by decide +kernel
theorem dX1_rank_14 : decode cX1_rank 14 = .ok (.lload_n 0, 1) := by decide +kernel
theorem dX1_rank_15 : decode cX1_rank 15 = .ok (.lreturn, 1) := by decide +kernel
set_option maxRecDepth 20000 in
theorem ggX1_lesser_X1_rank : GoodIn wsX1_lesser wsX1_rank := goodIn_r _ [4, 5] (by decide +kernel) (by decide +kernel)
set_option maxRecDepth 20000 in
theorem gX1_lesser_X1_rank : GoodIn wsX1_lesser (va_wsS RX1 21 yX1_rank wsX1_rank) := goodIn_app (goodIn_of _ (by decide +kernel)) ggX1_lesser_X1_rank
theorem dX1_lesser_0 : decode cX1_lesser 0 = .ok (.lload_n 0, 1) := by decide +kernel
theorem dX1_lesser_1 : decode cX1_lesser 1 = .ok (.invokestatic 21, 3) := by decide +kernel
theorem dX1_lesser_4 : decode cX1_lesser 4 = .ok (.lload_n 2, 1) := by decide +kernel
theorem dX1_lesser_5 : decode cX1_lesser 5 = .ok (.invokestatic 21, 3) := by decide +kernel
theorem dX1_lesser_8 : decode cX1_lesser 8 = .ok (.lcmp, 1) := by decide +kernel
theorem dX1_lesser_9 : decode cX1_lesser 9 = .ok (.ifCond .gt 7, 3) := by decide +kernel
theorem dX1_lesser_12 : decode cX1_lesser 12 = .ok (.lload_n 0, 1) := by decide +kernel
theorem dX1_lesser_13 : decode cX1_lesser 13 = .ok (.goto 4, 3) := by decide +kernel
theorem dX1_lesser_16 : decode cX1_lesser 16 = .ok (.lload_n 2, 1) := by decide +kernel
theorem dX1_lesser_17 : decode cX1_lesser 17 = .ok (.lreturn, 1) := by decide +kernel
set_option maxRecDepth 20000 in
theorem ggX1_greater_X1_rank : GoodIn wsX1_greater wsX1_rank := goodIn_r _ [4, 5] (by decide +kernel) (by decide +kernel)
set_option maxRecDepth 20000 in
theorem gX1_greater_X1_rank : GoodIn wsX1_greater (va_wsS RX1 21 yX1_rank wsX1_rank) := goodIn_app (goodIn_of _ (by decide +kernel)) ggX1_greater_X1_rank
theorem dX1_greater_0 : decode cX1_greater 0 = .ok (.lload_n 0, 1) := by decide +kernel
theorem dX1_greater_1 : decode cX1_greater 1 = .ok (.invokestatic 21, 3) := by decide +kernel
theorem dX1_greater_4 : decode cX1_greater 4 = .ok (.lload_n 2, 1) := by decide +kernel
theorem dX1_greater_5 : decode cX1_greater 5 = .ok (.invokestatic 21, 3) := by decide +kernel
theorem dX1_greater_8 : decode cX1_greater 8 = .ok (.lcmp, 1) := by decide +kernel
theorem dX1_greater_9 : decode cX1_greater 9 = .ok (.ifCond .lt 7, 3) := by decide +kernel
theorem dX1_greater_12 : decode cX1_greater 12 = .ok (.lload_n 0, 1) := by decide +kernel
theorem dX1_greater_13 : decode cX1_greater 13 = .ok (.goto 4, 3) := by decide +kernel
theorem dX1_greater_16 : decode cX1_greater 16 = .ok (.lload_n 2, 1) := by decide +kernel
theorem dX1_greater_17 : decode cX1_greater 17 = .ok (.lreturn, 1) := by decide +kernel
set_option maxRecDepth 20000 in
theorem ggX1_outer_X1_greater : GoodIn wsX1_outer wsX1_greater := goodIn_r _ [4, 5, 6, 3, 7, 8] (by decide +kernel) (by decide +kernel)
set_option maxRecDepth 20000 in
theorem gX1_outer_X1_greater : GoodIn wsX1_outer (va_wsS RX1 25 yX1_greater wsX1_greater) := goodIn_app (goodIn_of _ (by decide +kernel)) ggX1_outer_X1_greater
set_option maxRecDepth 20000 in
theorem ggX1_outer_X1_lesser : GoodIn wsX1_outer wsX1_lesser := goodIn_r _ [11, 5, 6, 3, 7, 8] (by decide +kernel) (by decide +kernel)
set_option maxRecDepth 20000 in
theorem gX1_outer_X1_lesser : GoodIn wsX1_outer (va_wsS RX1 28 yX1_lesser wsX1_lesser) := goodIn_app (goodIn_of _ (by decide +kernel)) ggX1_outer_X1_lesser
theorem dX1_outer_0 : decode cX1_outer 0 = .ok (.iload 4, 2) := by decide +kernel
theorem dX1_outer_2 : decode cX1_outer 2 = .ok (.ifCond .ne 11, 3) := by decide +kernel
theorem dX1_outer_5 : decode cX1_outer 5 = .ok (.lload_n 0, 1) := by decide +kernel
theorem dX1_outer_6 : decode cX1_outer 6 = .ok (.lload_n 2, 1) := by decide +kernel
theorem dX1_outer_7 : decode cX1_outer 7 = .ok (.invokestatic 25, 3) := by decide +kernel
theorem dX1_outer_10 : decode cX1_outer 10 = .ok (.goto 8, 3) := by decide +kernel
theorem dX1_outer_13 : decode cX1_outer 13 = .ok (.lload_n 0, 1) := by decide +kernel
theorem dX1_outer_14 : decode cX1_outer 14 = .ok (.lload_n 2, 1) := by decide +kernel
theorem dX1_outer_15 : decode cX1_outer 15 = .ok (.invokestatic 28, 3) := by decide +kernel
theorem dX1_outer_18 : decode cX1_outer 18 = .ok (.lreturn, 1) := by decide +kernel
set_option maxRecDepth 20000 in
theorem ggX1_value_X1_valueOfSize : GoodIn wsX1_value wsX1_valueOfSize := goodIn_r _ [4, 5, 6, 7, 8, 9, 3, 10, 11, 12, 13, 14, 15, 16, 17, 18, 19, 20, 21, 22, 23, 24, 25, 26, 27, 28, 29, 30, 31, 32] (by decide +kernel) (by decide +kernel)
set_option maxRecDepth 20000 in
theorem gX1_value_X1_valueOfSize : GoodIn wsX1_value (va_wsS RX1 31 yX1_valueOfSize wsX1_valueOfSize) := goodIn_app (goodIn_of _ (by decide +kernel)) ggX1_value_X1_valueOfSize
theorem dX1_value_0 : decode cX1_value 0 = .ok (.lload_n 0, 1) := by decide +kernel
theorem dX1_value_1 : decode cX1_value 1 = .ok (.invokestatic 31, 3) := by decide +kernel
theorem dX1_value_4 : decode cX1_value 4 = .ok (.dstore_n 2, 1) := by decide +kernel
theorem dX1_value_5 : decode cX1_value 5 = .ok (.lload_n 0, 1) := by decide +kernel
theorem dX1_value_6 : decode cX1_value 6 = .ok (.lconst 0, 1) := by decide +kernel
theorem dX1_value_7 : decode cX1_value 7 = .ok (.lcmp, 1) := by decide +kernel
theorem dX1_value_8 : decode cX1_value 8 = .ok (.ifCond .ge 8, 3) := by decide +kernel
theorem dX1_value_11 : decode cX1_value 11 = .ok (.dload_n 2, 1) := by decide +kernel
theorem dX1_value_12 : decode cX1_value 12 = .ok (.dneg, 1) := by decide +kernel
theorem dX1_value_13 : decode cX1_value 13 = .ok (.goto 4, 3) := by decide +kernel
theorem dX1_value_16 : decode cX1_value 16 = .ok (.dload_n 2, 1) := by decide +kernel
theorem dX1_value_17 : decode cX1_value 17 = .ok (.dreturn, 1) := by decide +kernel
set_option maxRecDepth 20000 in
theorem ggX1_valueOfSize_X1_isInfinite : GoodIn wsX1_valueOfSize wsX1_isInfinite := goodIn_r _ [7, 1, 8] (by decide +kernel) (by decide +kernel)
set_option maxRecDepth 20000 in
theorem gX1_valueOfSize_X1_isInfinite : GoodIn wsX1_valueOfSize (va_wsS RX1 35 yX1_isInfinite wsX1_isInfinite) := goodIn_app (goodIn_of _ (by decide +kernel)) ggX1_valueOfSize_X1_isInfinite
set_option maxRecDepth 20000 in
theorem ggX1_valueOfSize_X2_beyondAll : GoodIn wsX1_valueOfSize wsX2_beyondAll := goodIn_r _ [12, 13] (by decide +kernel) (by decide +kernel)
set_option maxRecDepth 20000 in
theorem gX1_valueOfSize_X2_beyondAll : GoodIn wsX1_valueOfSize (va_wsS RX1 39 yX2_beyondAll wsX2_beyondAll) := goodIn_app (goodIn_of _ (by decide +kernel)) ggX1_valueOfSize_X2_beyondAll
set_option maxRecDepth 20000 in
theorem ggX1_valueOfSize_X2_scaled : GoodIn wsX1_valueOfSize wsX2_scaled := goodIn_r _ [16, 17, 18, 11, 19, 20, 21, 22, 23, 24, 25, 26, 27, 28, 29] (by decide +kernel) (by decide +kernel)
set_option maxRecDepth 20000 in
theorem gX1_valueOfSize_X2_scaled : GoodIn wsX1_valueOfSize (va_wsS RX1 49 yX2_scaled wsX2_scaled) := goodIn_app (goodIn_of _ (by decide +kernel)) ggX1_valueOfSize_X2_scaled
theorem dX1_valueOfSize_0 : decode cX1_valueOfSize 0 = .ok (.lload_n 0, 1) := by decide +kernel
theorem dX1_valueOfSize_1 : decode cX1_valueOfSize 1 = .ok (.invokestatic 35, 3) := by decide +kernel
theorem dX1_valueOfSize_4 : decode cX1_valueOfSize 4 = .ok (.ifCond .eq 7, 3) := by decide +kernel
theorem dX1_valueOfSize_7 : decode cX1_valueOfSize 7 = .ok (.invokestatic 39, 3) := by decide +kernel
theorem dX1_valueOfSize_10 : decode cX1_valueOfSize 10 = .ok (.dreturn, 1) := by decide +kernel
theorem dX1_valueOfSize_11 : decode cX1_valueOfSize 11 = .ok (.lload_n 0, 1) := by decide +kernel
theorem dX1_valueOfSize_12 : decode cX1_valueOfSize 12 = .ok (.ldc2_w 9, 3) := by decide +kernel
theorem dX1_valueOfSize_15 : decode cX1_valueOfSize 15 = .ok (.land, 1) := by decide +kernel
theorem dX1_valueOfSize_16 : decode cX1_valueOfSize 16 = .ok (.bipush 52, 2) := by decide +kernel
theorem dX1_valueOfSize_18 : decode cX1_valueOfSize 18 = .ok (.lushr, 1) := by decide +kernel
theorem dX1_valueOfSize_19 : decode cX1_valueOfSize 19 = .ok (.l2i, 1) := by decide +kernel
theorem dX1_valueOfSize_20 : decode cX1_valueOfSize 20 = .ok (.istore_n 2, 1) := by decide +kernel
theorem dX1_valueOfSize_21 : decode cX1_valueOfSize 21 = .ok (.lload_n 0, 1) := by decide +kernel
theorem dX1_valueOfSize_22 : decode cX1_valueOfSize 22 = .ok (.ldc2_w 45, 3) := by decide +kernel
theorem dX1_valueOfSize_25 : decode cX1_valueOfSize 25 = .ok (.land, 1) := by decide +kernel
theorem dX1_valueOfSize_26 : decode cX1_valueOfSize 26 = .ok (.l2d, 1) := by decide +kernel
theorem dX1_valueOfSize_27 : decode cX1_valueOfSize 27 = .ok (.ldc2_w 47, 3) := by decide +kernel
theorem dX1_valueOfSize_30 : decode cX1_valueOfSize 30 = .ok (.dmul, 1) := by decide +kernel
theorem dX1_valueOfSize_31 : decode cX1_valueOfSize 31 = .ok (.dstore_n 3, 1) := by decide +kernel
theorem dX1_valueOfSize_32 : decode cX1_valueOfSize 32 = .ok (.iload_n 2, 1) := by decide +kernel
theorem dX1_valueOfSize_33 : decode cX1_valueOfSize 33 = .ok (.ifCond .ne 13, 3) := by decide +kernel
theorem dX1_valueOfSize_36 : decode cX1_valueOfSize 36 = .ok (.dload_n 3, 1) := by decide +kernel
theorem dX1_valueOfSize_37 : decode cX1_valueOfSize 37 = .ok (.sipush (-1022), 3) := by decide +kernel
theorem dX1_valueOfSize_40 : decode cX1_valueOfSize 40 = .ok (.invokestatic 49, 3) := by decide +kernel
theorem dX1_valueOfSize_43 : decode cX1_valueOfSize 43 = .ok (.goto 14, 3) := by decide +kernel
theorem dX1_valueOfSize_46 : decode cX1_valueOfSize 46 = .ok (.dconst 1, 1) := by decide +kernel
theorem dX1_valueOfSize_47 : decode cX1_valueOfSize 47 = .ok (.dload_n 3, 1) := by decide +kernel
theorem dX1_valueOfSize_48 : decode cX1_valueOfSize 48 = .ok (.dadd, 1) := by decide +kernel
theorem dX1_valueOfSize_49 : decode cX1_valueOfSize 49 = .ok (.iload_n 2, 1) := by decide +kernel
theorem dX1_valueOfSize_50 : decode cX1_valueOfSize 50 = .ok (.sipush 1023, 3) := by decide +kernel
theorem dX1_valueOfSize_53 : decode cX1_valueOfSize 53 = .ok (.isub, 1) := by decide +kernel
theorem dX1_valueOfSize_54 : decode cX1_valueOfSize 54 = .ok (.invokestatic 49, 3) := by decide +kernel
theorem dX1_valueOfSize_57 : decode cX1_valueOfSize 57 = .ok (.dreturn, 1) := by decide +kernel
set_option maxRecDepth 20000 in
theorem ggX1_of_X1_ofSize : GoodIn wsX1_of wsX1_ofSize := goodIn_r _ [5, 6, 7, 8, 9, 10, 11, 12, 13, 14, 15, 16, 17, 18, 19, 20, 21, 22, 23, 24, 25, 26, 27, 28, 29, 30, 31, 32, 33, 34] (by decide +kernel) (by decide +kernel)
set_option maxRecDepth 20000 in
theorem gX1_of_X1_ofSize : GoodIn wsX1_of (va_wsS RX1 53 yX1_ofSize wsX1_ofSize) := goodIn_app (goodIn_of _ (by decide +kernel)) ggX1_of_X1_ofSize
theorem dX1_of_0 : decode cX1_of 0 = .ok (.dload_n 0, 1) := by decide +kernel
theorem dX1_of_1 : decode cX1_of 1 = .ok (.dconst 0, 1) := by decide +kernel
theorem dX1_of_2 : decode cX1_of 2 = .ok (.dcmp .g, 1) := by decide +kernel
theorem dX1_of_3 : decode cX1_of 3 = .ok (.ifCond .ge 15, 3) := by decide +kernel
theorem dX1_of_6 : decode cX1_of 6 = .ok (.ldc2_w 13, 3) := by decide +kernel
theorem dX1_of_9 : decode cX1_of 9 = .ok (.dload_n 0, 1) := by decide +kernel
theorem dX1_of_10 : decode cX1_of 10 = .ok (.dneg, 1) := by decide +kernel
theorem dX1_of_11 : decode cX1_of 11 = .ok (.invokestatic 53, 3) := by decide +kernel
theorem dX1_of_14 : decode cX1_of 14 = .ok (.lor, 1) := by decide +kernel
theorem dX1_of_15 : decode cX1_of 15 = .ok (.goto 7, 3) := by decide +kernel
theorem dX1_of_18 : decode cX1_of 18 = .ok (.dload_n 0, 1) := by decide +kernel
theorem dX1_of_19 : decode cX1_of 19 = .ok (.invokestatic 53, 3) := by decide +kernel
theorem dX1_of_22 : decode cX1_of 22 = .ok (.lreturn, 1) := by decide +kernel
set_option maxRecDepth 20000 in
theorem ggX1_ofSize_X2_beyondAll : GoodIn wsX1_ofSize wsX2_beyondAll := goodIn_r _ [6, 7] (by decide +kernel) (by decide +kernel)
set_option maxRecDepth 20000 in
theorem gX1_ofSize_X2_beyondAll : GoodIn wsX1_ofSize (va_wsS RX1 39 yX2_beyondAll wsX2_beyondAll) := goodIn_app (goodIn_of _ (by decide +kernel)) ggX1_ofSize_X2_beyondAll
set_option maxRecDepth 20000 in
theorem ggX1_ofSize_X2_floorFromOne : GoodIn wsX1_ofSize wsX2_floorFromOne := goodIn_r _ [10, 11, 12, 5, 13, 14, 15, 16, 17, 18, 19, 20, 21, 22, 23] (by decide +kernel) (by decide +kernel)
set_option maxRecDepth 20000 in
theorem gX1_ofSize_X2_floorFromOne : GoodIn wsX1_ofSize (va_wsS RX1 57 yX2_floorFromOne wsX2_floorFromOne) := goodIn_app (goodIn_of _ (by decide +kernel)) ggX1_ofSize_X2_floorFromOne
set_option maxRecDepth 20000 in
theorem ggX1_ofSize_X2_floorBelowOne : GoodIn wsX1_ofSize wsX2_floorBelowOne := goodIn_r _ [26, 14, 11, 12, 5, 13, 15, 16, 17, 18, 19, 20, 21, 22, 23] (by decide +kernel) (by decide +kernel)
set_option maxRecDepth 20000 in
theorem gX1_ofSize_X2_floorBelowOne : GoodIn wsX1_ofSize (va_wsS RX1 61 yX2_floorBelowOne wsX2_floorBelowOne) := goodIn_app (goodIn_of _ (by decide +kernel)) ggX1_ofSize_X2_floorBelowOne
set_option maxRecDepth 20000 in
theorem ggX1_ofSize_X2_scaled : GoodIn wsX1_ofSize wsX2_scaled := goodIn_r _ [29, 11, 12, 5, 13, 14, 15, 16, 17, 18, 19, 20, 21, 22, 23] (by decide +kernel) (by decide +kernel)
set_option maxRecDepth 20000 in
theorem gX1_ofSize_X2_scaled : GoodIn wsX1_ofSize (va_wsS RX1 49 yX2_scaled wsX2_scaled) := goodIn_app (goodIn_of _ (by decide +kernel)) ggX1_ofSize_X2_scaled
theorem dX1_ofSize_0 : decode cX1_ofSize 0 = .ok (.dload_n 0, 1) := by decide +kernel
theorem dX1_ofSize_1 : decode cX1_ofSize 1 = .ok (.invokestatic 39, 3) := by decide +kernel
theorem dX1_ofSize_4 : decode cX1_ofSize 4 = .ok (.dcmp .l, 1) := by decide +kernel
theorem dX1_ofSize_5 : decode cX1_ofSize 5 = .ok (.ifCond .ne 7, 3) := by decide +kernel
theorem dX1_ofSize_8 : decode cX1_ofSize 8 = .ok (.ldc2_w 11, 3) := by decide +kernel
theorem dX1_ofSize_11 : decode cX1_ofSize 11 = .ok (.lreturn, 1) := by decide +kernel
theorem dX1_ofSize_12 : decode cX1_ofSize 12 = .ok (.dload_n 0, 1) := by decide +kernel
theorem dX1_ofSize_13 : decode cX1_ofSize 13 = .ok (.dconst 1, 1) := by decide +kernel
theorem dX1_ofSize_14 : decode cX1_ofSize 14 = .ok (.dcmp .l, 1) := by decide +kernel
theorem dX1_ofSize_15 : decode cX1_ofSize 15 = .ok (.ifCond .lt 10, 3) := by decide +kernel
theorem dX1_ofSize_18 : decode cX1_ofSize 18 = .ok (.dload_n 0, 1) := by decide +kernel
theorem dX1_ofSize_19 : decode cX1_ofSize 19 = .ok (.invokestatic 57, 3) := by decide +kernel
theorem dX1_ofSize_22 : decode cX1_ofSize 22 = .ok (.goto 10, 3) := by decide +kernel
theorem dX1_ofSize_25 : decode cX1_ofSize 25 = .ok (.dload_n 0, 1) := by decide +kernel
theorem dX1_ofSize_26 : decode cX1_ofSize 26 = .ok (.sipush (-1022), 3) := by decide +kernel
theorem dX1_ofSize_29 : decode cX1_ofSize 29 = .ok (.invokestatic 61, 3) := by decide +kernel
theorem dX1_ofSize_32 : decode cX1_ofSize 32 = .ok (.istore_n 2, 1) := by decide +kernel
theorem dX1_ofSize_33 : decode cX1_ofSize 33 = .ok (.dload_n 0, 1) := by decide +kernel
theorem dX1_ofSize_34 : decode cX1_ofSize 34 = .ok (.iload_n 2, 1) := by decide +kernel
theorem dX1_ofSize_35 : decode cX1_ofSize 35 = .ok (.ineg, 1) := by decide +kernel
theorem dX1_ofSize_36 : decode cX1_ofSize 36 = .ok (.invokestatic 49, 3) := by decide +kernel
theorem dX1_ofSize_39 : decode cX1_ofSize 39 = .ok (.ldc2_w 65, 3) := by decide +kernel
theorem dX1_ofSize_42 : decode cX1_ofSize 42 = .ok (.dmul, 1) := by decide +kernel
theorem dX1_ofSize_43 : decode cX1_ofSize 43 = .ok (.d2l, 1) := by decide +kernel
theorem dX1_ofSize_44 : decode cX1_ofSize 44 = .ok (.lstore_n 3, 1) := by decide +kernel
theorem dX1_ofSize_45 : decode cX1_ofSize 45 = .ok (.iload_n 2, 1) := by decide +kernel
theorem dX1_ofSize_46 : decode cX1_ofSize 46 = .ok (.sipush (-1022), 3) := by decide +kernel
theorem dX1_ofSize_49 : decode cX1_ofSize 49 = .ok (.isub, 1) := by decide +kernel
theorem dX1_ofSize_50 : decode cX1_ofSize 50 = .ok (.i2l, 1) := by decide +kernel
theorem dX1_ofSize_51 : decode cX1_ofSize 51 = .ok (.bipush 52, 2) := by decide +kernel
theorem dX1_ofSize_53 : decode cX1_ofSize 53 = .ok (.lshl, 1) := by decide +kernel
theorem dX1_ofSize_54 : decode cX1_ofSize 54 = .ok (.lload_n 3, 1) := by decide +kernel
theorem dX1_ofSize_55 : decode cX1_ofSize 55 = .ok (.ladd, 1) := by decide +kernel
theorem dX1_ofSize_56 : decode cX1_ofSize 56 = .ok (.lreturn, 1) := by decide +kernel
theorem dX2_leap_0 : decode cX2_leap 0 = .ok (.iload_n 0, 1) := by decide +kernel
theorem dX2_leap_1 : decode cX2_leap 1 = .ok (.tableswitch 87 0 8 #[51, 55, 59, 63, 67, 71, 75, 79, 83], 51) := by decide +kernel
theorem dX2_leap_52 : decode cX2_leap 52 = .ok (.ldc2_w 7, 3) := by decide +kernel
theorem dX2_leap_55 : decode cX2_leap 55 = .ok (.dreturn, 1) := by decide +kernel
theorem dX2_leap_56 : decode cX2_leap 56 = .ok (.ldc2_w 9, 3) := by decide +kernel
theorem dX2_leap_59 : decode cX2_leap 59 = .ok (.dreturn, 1) := by decide +kernel
theorem dX2_leap_60 : decode cX2_leap 60 = .ok (.ldc2_w 11, 3) := by decide +kernel
theorem dX2_leap_63 : decode cX2_leap 63 = .ok (.dreturn, 1) := by decide +kernel
theorem dX2_leap_64 : decode cX2_leap 64 = .ok (.ldc2_w 13, 3) := by decide +kernel
theorem dX2_leap_67 : decode cX2_leap 67 = .ok (.dreturn, 1) := by decide +kernel
theorem dX2_leap_68 : decode cX2_leap 68 = .ok (.ldc2_w 15, 3) := by decide +kernel
theorem dX2_leap_71 : decode cX2_leap 71 = .ok (.dreturn, 1) := by decide +kernel
theorem dX2_leap_72 : decode cX2_leap 72 = .ok (.ldc2_w 17, 3) := by decide +kernel
theorem dX2_leap_75 : decode cX2_leap 75 = .ok (.dreturn, 1) := by decide +kernel
theorem dX2_leap_76 : decode cX2_leap 76 = .ok (.ldc2_w 19, 3) := by decide +kernel
theorem dX2_leap_79 : decode cX2_leap 79 = .ok (.dreturn, 1) := by decide +kernel
theorem dX2_leap_80 : decode cX2_leap 80 = .ok (.ldc2_w 21, 3) := by decide +kernel
theorem dX2_leap_83 : decode cX2_leap 83 = .ok (.dreturn, 1) := by decide +kernel
theorem dX2_leap_84 : decode cX2_leap 84 = .ok (.ldc2_w 23, 3) := by decide +kernel
theorem dX2_leap_87 : decode cX2_leap 87 = .ok (.dreturn, 1) := by decide +kernel
theorem dX2_leap_88 : decode cX2_leap 88 = .ok (.ldc2_w 25, 3) := by decide +kernel
theorem dX2_leap_91 : decode cX2_leap 91 = .ok (.dreturn, 1) := by decide +kernel
theorem dX2_beyondAll_0 : decode cX2_beyondAll 0 = .ok (.ldc2_w 27, 3) := by decide +kernel
theorem dX2_beyondAll_3 : decode cX2_beyondAll 3 = .ok (.dreturn, 1) := by decide +kernel
set_option maxRecDepth 20000 in
theorem ggX2_scaled_X2_leap : GoodIn wsX2_scaled wsX2_leap := goodIn_r _ [4, 5, 6, 7, 8, 9, 10, 11, 12, 13, 14] (by decide +kernel) (by decide +kernel)
set_option maxRecDepth 20000 in
theorem gX2_scaled_X2_leap : GoodIn wsX2_scaled (va_wsS RX2 31 yX2_leap wsX2_leap) := goodIn_app (goodIn_of _ (by decide +kernel)) ggX2_scaled_X2_leap
theorem dX2_scaled_0 : decode cX2_scaled 0 = .ok (.iload_n 2, 1) := by decide +kernel
theorem dX2_scaled_1 : decode cX2_scaled 1 = .ok (.ifCond .ge 8, 3) := by decide +kernel
theorem dX2_scaled_4 : decode cX2_scaled 4 = .ok (.iload_n 2, 1) := by decide +kernel
theorem dX2_scaled_5 : decode cX2_scaled 5 = .ok (.ineg, 1) := by decide +kernel
theorem dX2_scaled_6 : decode cX2_scaled 6 = .ok (.goto 4, 3) := by decide +kernel
theorem dX2_scaled_9 : decode cX2_scaled 9 = .ok (.iload_n 2, 1) := by decide +kernel
theorem dX2_scaled_10 : decode cX2_scaled 10 = .ok (.istore_n 3, 1) := by decide +kernel
theorem dX2_scaled_11 : decode cX2_scaled 11 = .ok (.dload_n 0, 1) := by decide +kernel
theorem dX2_scaled_12 : decode cX2_scaled 12 = .ok (.dstore 4, 2) := by decide +kernel
theorem dX2_scaled_14 : decode cX2_scaled 14 = .ok (.iconst 0, 1) := by decide +kernel
theorem dX2_scaled_15 : decode cX2_scaled 15 = .ok (.istore 6, 2) := by decide +kernel
theorem dX2_scaled_17 : decode cX2_scaled 17 = .ok (.iload 6, 2) := by decide +kernel
theorem dX2_scaled_19 : decode cX2_scaled 19 = .ok (.bipush 10, 2) := by decide +kernel
theorem dX2_scaled_21 : decode cX2_scaled 21 = .ok (.if_icmp .ge 43, 3) := by decide +kernel
theorem dX2_scaled_24 : decode cX2_scaled 24 = .ok (.iload_n 3, 1) := by decide +kernel
theorem dX2_scaled_25 : decode cX2_scaled 25 = .ok (.iload 6, 2) := by decide +kernel
theorem dX2_scaled_27 : decode cX2_scaled 27 = .ok (.ishr, 1) := by decide +kernel
theorem dX2_scaled_28 : decode cX2_scaled 28 = .ok (.iconst 1, 1) := by decide +kernel
theorem dX2_scaled_29 : decode cX2_scaled 29 = .ok (.iand, 1) := by decide +kernel
theorem dX2_scaled_30 : decode cX2_scaled 30 = .ok (.ifCond .eq 28, 3) := by decide +kernel
theorem dX2_scaled_33 : decode cX2_scaled 33 = .ok (.iload_n 2, 1) := by decide +kernel
theorem dX2_scaled_34 : decode cX2_scaled 34 = .ok (.ifCond .ge 14, 3) := by decide +kernel
theorem dX2_scaled_37 : decode cX2_scaled 37 = .ok (.dload 4, 2) := by decide +kernel
theorem dX2_scaled_39 : decode cX2_scaled 39 = .ok (.iload 6, 2) := by decide +kernel
theorem dX2_scaled_41 : decode cX2_scaled 41 = .ok (.invokestatic 31, 3) := by decide +kernel
theorem dX2_scaled_44 : decode cX2_scaled 44 = .ok (.ddiv, 1) := by decide +kernel
theorem dX2_scaled_45 : decode cX2_scaled 45 = .ok (.goto 11, 3) := by decide +kernel
theorem dX2_scaled_48 : decode cX2_scaled 48 = .ok (.dload 4, 2) := by decide +kernel
theorem dX2_scaled_50 : decode cX2_scaled 50 = .ok (.iload 6, 2) := by decide +kernel
theorem dX2_scaled_52 : decode cX2_scaled 52 = .ok (.invokestatic 31, 3) := by decide +kernel
theorem dX2_scaled_55 : decode cX2_scaled 55 = .ok (.dmul, 1) := by decide +kernel
theorem dX2_scaled_56 : decode cX2_scaled 56 = .ok (.dstore 4, 2) := by decide +kernel
theorem dX2_scaled_58 : decode cX2_scaled 58 = .ok (.iinc 6 1, 3) := by decide +kernel
theorem dX2_scaled_61 : decode cX2_scaled 61 = .ok (.goto (-44), 3) := by decide +kernel
theorem dX2_scaled_64 : decode cX2_scaled 64 = .ok (.dload 4, 2) := by decide +kernel
theorem dX2_scaled_66 : decode cX2_scaled 66 = .ok (.dreturn, 1) := by decide +kernel
set_option maxRecDepth 20000 in
theorem ggX2_floorFromOne_X2_leap : GoodIn wsX2_floorFromOne wsX2_leap := goodIn_r _ [4, 5, 6, 7, 8, 9, 10, 11, 12, 13, 14] (by decide +kernel) (by decide +kernel)
set_option maxRecDepth 20000 in
theorem gX2_floorFromOne_X2_leap : GoodIn wsX2_floorFromOne (va_wsS RX2 31 yX2_leap wsX2_leap) := goodIn_app (goodIn_of _ (by decide +kernel)) ggX2_floorFromOne_X2_leap
theorem dX2_floorFromOne_0 : decode cX2_floorFromOne 0 = .ok (.iconst 0, 1) := by decide +kernel
theorem dX2_floorFromOne_1 : decode cX2_floorFromOne 1 = .ok (.istore_n 2, 1) := by decide +kernel
theorem dX2_floorFromOne_2 : decode cX2_floorFromOne 2 = .ok (.dload_n 0, 1) := by decide +kernel
theorem dX2_floorFromOne_3 : decode cX2_floorFromOne 3 = .ok (.dstore_n 3, 1) := by decide +kernel
theorem dX2_floorFromOne_4 : decode cX2_floorFromOne 4 = .ok (.bipush 9, 2) := by decide +kernel
theorem dX2_floorFromOne_6 : decode cX2_floorFromOne 6 = .ok (.istore 5, 2) := by decide +kernel
theorem dX2_floorFromOne_8 : decode cX2_floorFromOne 8 = .ok (.iload 5, 2) := by decide +kernel
theorem dX2_floorFromOne_10 : decode cX2_floorFromOne 10 = .ok (.ifCond .lt 34, 3) := by decide +kernel
theorem dX2_floorFromOne_13 : decode cX2_floorFromOne 13 = .ok (.dload_n 3, 1) := by decide +kernel
theorem dX2_floorFromOne_14 : decode cX2_floorFromOne 14 = .ok (.iload 5, 2) := by decide +kernel
theorem dX2_floorFromOne_16 : decode cX2_floorFromOne 16 = .ok (.invokestatic 31, 3) := by decide +kernel
theorem dX2_floorFromOne_19 : decode cX2_floorFromOne 19 = .ok (.dcmp .l, 1) := by decide +kernel
theorem dX2_floorFromOne_20 : decode cX2_floorFromOne 20 = .ok (.ifCond .lt 18, 3) := by decide +kernel
theorem dX2_floorFromOne_23 : decode cX2_floorFromOne 23 = .ok (.dload_n 3, 1) := by decide +kernel
theorem dX2_floorFromOne_24 : decode cX2_floorFromOne 24 = .ok (.iload 5, 2) := by decide +kernel
theorem dX2_floorFromOne_26 : decode cX2_floorFromOne 26 = .ok (.invokestatic 31, 3) := by decide +kernel
theorem dX2_floorFromOne_29 : decode cX2_floorFromOne 29 = .ok (.ddiv, 1) := by decide +kernel
theorem dX2_floorFromOne_30 : decode cX2_floorFromOne 30 = .ok (.dstore_n 3, 1) := by decide +kernel
theorem dX2_floorFromOne_31 : decode cX2_floorFromOne 31 = .ok (.iload_n 2, 1) := by decide +kernel
theorem dX2_floorFromOne_32 : decode cX2_floorFromOne 32 = .ok (.iconst 1, 1) := by decide +kernel
theorem dX2_floorFromOne_33 : decode cX2_floorFromOne 33 = .ok (.iload 5, 2) := by decide +kernel
theorem dX2_floorFromOne_35 : decode cX2_floorFromOne 35 = .ok (.ishl, 1) := by decide +kernel
theorem dX2_floorFromOne_36 : decode cX2_floorFromOne 36 = .ok (.iadd, 1) := by decide +kernel
theorem dX2_floorFromOne_37 : decode cX2_floorFromOne 37 = .ok (.istore_n 2, 1) := by decide +kernel
theorem dX2_floorFromOne_38 : decode cX2_floorFromOne 38 = .ok (.iinc 5 (-1), 3) := by decide +kernel
theorem dX2_floorFromOne_41 : decode cX2_floorFromOne 41 = .ok (.goto (-33), 3) := by decide +kernel
theorem dX2_floorFromOne_44 : decode cX2_floorFromOne 44 = .ok (.iload_n 2, 1) := by decide +kernel
theorem dX2_floorFromOne_45 : decode cX2_floorFromOne 45 = .ok (.ireturn, 1) := by decide +kernel
set_option maxRecDepth 20000 in
theorem ggX2_floorBelowOne_X2_leap : GoodIn wsX2_floorBelowOne wsX2_leap := goodIn_r _ [5, 1, 6, 7, 8, 9, 10, 11, 12, 13, 14] (by decide +kernel) (by decide +kernel)
set_option maxRecDepth 20000 in
theorem gX2_floorBelowOne_X2_leap : GoodIn wsX2_floorBelowOne (va_wsS RX2 31 yX2_leap wsX2_leap) := goodIn_app (goodIn_of _ (by decide +kernel)) ggX2_floorBelowOne_X2_leap
theorem dX2_floorBelowOne_0 : decode cX2_floorBelowOne 0 = .ok (.iconst 0, 1) := by decide +kernel
theorem dX2_floorBelowOne_1 : decode cX2_floorBelowOne 1 = .ok (.istore_n 3, 1) := by decide +kernel
theorem dX2_floorBelowOne_2 : decode cX2_floorBelowOne 2 = .ok (.dload_n 0, 1) := by decide +kernel
theorem dX2_floorBelowOne_3 : decode cX2_floorBelowOne 3 = .ok (.dstore 4, 2) := by decide +kernel
theorem dX2_floorBelowOne_5 : decode cX2_floorBelowOne 5 = .ok (.bipush 9, 2) := by decide +kernel
theorem dX2_floorBelowOne_7 : decode cX2_floorBelowOne 7 = .ok (.istore 6, 2) := by decide +kernel
theorem dX2_floorBelowOne_9 : decode cX2_floorBelowOne 9 = .ok (.iload 6, 2) := by decide +kernel
theorem dX2_floorBelowOne_11 : decode cX2_floorBelowOne 11 = .ok (.ifCond .lt 51, 3) := by decide +kernel
theorem dX2_floorBelowOne_14 : decode cX2_floorBelowOne 14 = .ok (.iload_n 3, 1) := by decide +kernel
theorem dX2_floorBelowOne_15 : decode cX2_floorBelowOne 15 = .ok (.iconst 1, 1) := by decide +kernel
theorem dX2_floorBelowOne_16 : decode cX2_floorBelowOne 16 = .ok (.iload 6, 2) := by decide +kernel
theorem dX2_floorBelowOne_18 : decode cX2_floorBelowOne 18 = .ok (.ishl, 1) := by decide +kernel
theorem dX2_floorBelowOne_19 : decode cX2_floorBelowOne 19 = .ok (.isub, 1) := by decide +kernel
theorem dX2_floorBelowOne_20 : decode cX2_floorBelowOne 20 = .ok (.iload_n 2, 1) := by decide +kernel
theorem dX2_floorBelowOne_21 : decode cX2_floorBelowOne 21 = .ok (.if_icmp .lt 35, 3) := by decide +kernel
theorem dX2_floorBelowOne_24 : decode cX2_floorBelowOne 24 = .ok (.dload 4, 2) := by decide +kernel
theorem dX2_floorBelowOne_26 : decode cX2_floorBelowOne 26 = .ok (.iload 6, 2) := by decide +kernel
theorem dX2_floorBelowOne_28 : decode cX2_floorBelowOne 28 = .ok (.invokestatic 31, 3) := by decide +kernel
theorem dX2_floorBelowOne_31 : decode cX2_floorBelowOne 31 = .ok (.dmul, 1) := by decide +kernel
theorem dX2_floorBelowOne_32 : decode cX2_floorBelowOne 32 = .ok (.ldc2_w 7, 3) := by decide +kernel
theorem dX2_floorBelowOne_35 : decode cX2_floorBelowOne 35 = .ok (.dcmp .g, 1) := by decide +kernel
theorem dX2_floorBelowOne_36 : decode cX2_floorBelowOne 36 = .ok (.ifCond .ge 20, 3) := by decide +kernel
theorem dX2_floorBelowOne_39 : decode cX2_floorBelowOne 39 = .ok (.dload 4, 2) := by decide +kernel
theorem dX2_floorBelowOne_41 : decode cX2_floorBelowOne 41 = .ok (.iload 6, 2) := by decide +kernel
theorem dX2_floorBelowOne_43 : decode cX2_floorBelowOne 43 = .ok (.invokestatic 31, 3) := by decide +kernel
theorem dX2_floorBelowOne_46 : decode cX2_floorBelowOne 46 = .ok (.dmul, 1) := by decide +kernel
theorem dX2_floorBelowOne_47 : decode cX2_floorBelowOne 47 = .ok (.dstore 4, 2) := by decide +kernel
theorem dX2_floorBelowOne_49 : decode cX2_floorBelowOne 49 = .ok (.iload_n 3, 1) := by decide +kernel
theorem dX2_floorBelowOne_50 : decode cX2_floorBelowOne 50 = .ok (.iconst 1, 1) := by decide +kernel
theorem dX2_floorBelowOne_51 : decode cX2_floorBelowOne 51 = .ok (.iload 6, 2) := by decide +kernel
theorem dX2_floorBelowOne_53 : decode cX2_floorBelowOne 53 = .ok (.ishl, 1) := by decide +kernel
theorem dX2_floorBelowOne_54 : decode cX2_floorBelowOne 54 = .ok (.isub, 1) := by decide +kernel
theorem dX2_floorBelowOne_55 : decode cX2_floorBelowOne 55 = .ok (.istore_n 3, 1) := by decide +kernel
theorem dX2_floorBelowOne_56 : decode cX2_floorBelowOne 56 = .ok (.iinc 6 (-1), 3) := by decide +kernel
theorem dX2_floorBelowOne_59 : decode cX2_floorBelowOne 59 = .ok (.goto (-50), 3) := by decide +kernel
theorem dX2_floorBelowOne_62 : decode cX2_floorBelowOne 62 = .ok (.iload_n 3, 1) := by decide +kernel
theorem dX2_floorBelowOne_63 : decode cX2_floorBelowOne 63 = .ok (.ireturn, 1) := by decide +kernel
set_option maxRecDepth 20000 in
theorem ggX3_widened_X1_ofSize : GoodIn wsX3_widened wsX1_ofSize := goodIn_r _ [11, 12, 13, 14, 15, 16, 17, 18, 19, 20, 21, 22, 23, 24, 25, 26, 27, 28, 29, 30, 31, 32, 33, 34, 35, 36, 37, 38, 39, 40] (by decide +kernel) (by decide +kernel)
set_option maxRecDepth 20000 in
theorem gX3_widened_X1_ofSize : GoodIn wsX3_widened (va_wsS RX3 20 yX1_ofSize wsX1_ofSize) := goodIn_app (goodIn_of _ (by decide +kernel)) ggX3_widened_X1_ofSize
theorem dX3_widened_0 : decode cX3_widened 0 = .ok (.iload_n 0, 1) := by decide +kernel
theorem dX3_widened_1 : decode cX3_widened 1 = .ok (.ifCond .ge 9, 3) := by decide +kernel
theorem dX3_widened_4 : decode cX3_widened 4 = .ok (.ldc2_w 9, 3) := by decide +kernel
theorem dX3_widened_7 : decode cX3_widened 7 = .ok (.goto 4, 3) := by decide +kernel
theorem dX3_widened_10 : decode cX3_widened 10 = .ok (.lconst 0, 1) := by decide +kernel
theorem dX3_widened_11 : decode cX3_widened 11 = .ok (.lstore_n 1, 1) := by decide +kernel
theorem dX3_widened_12 : decode cX3_widened 12 = .ok (.iload_n 0, 1) := by decide +kernel
theorem dX3_widened_13 : decode cX3_widened 13 = .ok (.ldc 13, 2) := by decide +kernel
theorem dX3_widened_15 : decode cX3_widened 15 = .ok (.iand, 1) := by decide +kernel
theorem dX3_widened_16 : decode cX3_widened 16 = .ok (.istore_n 3, 1) := by decide +kernel
theorem dX3_widened_17 : decode cX3_widened 17 = .ok (.iload_n 3, 1) := by decide +kernel
theorem dX3_widened_18 : decode cX3_widened 18 = .ok (.ldc 14, 2) := by decide +kernel
theorem dX3_widened_20 : decode cX3_widened 20 = .ok (.if_icmp .lt 15, 3) := by decide +kernel
theorem dX3_widened_23 : decode cX3_widened 23 = .ok (.lload_n 1, 1) := by decide +kernel
theorem dX3_widened_24 : decode cX3_widened 24 = .ok (.ldc2_w 15, 3) := by decide +kernel
theorem dX3_widened_27 : decode cX3_widened 27 = .ok (.iload_n 3, 1) := by decide +kernel
theorem dX3_widened_28 : decode cX3_widened 28 = .ok (.ldc 14, 2) := by decide +kernel
theorem dX3_widened_30 : decode cX3_widened 30 = .ok (.isub, 1) := by decide +kernel
theorem dX3_widened_31 : decode cX3_widened 31 = .ok (.i2l, 1) := by decide +kernel
theorem dX3_widened_32 : decode cX3_widened 32 = .ok (.ladd, 1) := by decide +kernel
theorem dX3_widened_33 : decode cX3_widened 33 = .ok (.lor, 1) := by decide +kernel
theorem dX3_widened_34 : decode cX3_widened 34 = .ok (.lreturn, 1) := by decide +kernel
theorem dX3_widened_35 : decode cX3_widened 35 = .ok (.iload_n 3, 1) := by decide +kernel
theorem dX3_widened_36 : decode cX3_widened 36 = .ok (.ldc 17, 2) := by decide +kernel
theorem dX3_widened_38 : decode cX3_widened 38 = .ok (.if_icmp .ge 15, 3) := by decide +kernel
theorem dX3_widened_41 : decode cX3_widened 41 = .ok (.lload_n 1, 1) := by decide +kernel
theorem dX3_widened_42 : decode cX3_widened 42 = .ok (.iload_n 3, 1) := by decide +kernel
theorem dX3_widened_43 : decode cX3_widened 43 = .ok (.i2d, 1) := by decide +kernel
theorem dX3_widened_44 : decode cX3_widened 44 = .ok (.ldc2_w 18, 3) := by decide +kernel
theorem dX3_widened_47 : decode cX3_widened 47 = .ok (.dmul, 1) := by decide +kernel
theorem dX3_widened_48 : decode cX3_widened 48 = .ok (.invokestatic 20, 3) := by decide +kernel
theorem dX3_widened_51 : decode cX3_widened 51 = .ok (.lor, 1) := by decide +kernel
theorem dX3_widened_52 : decode cX3_widened 52 = .ok (.lreturn, 1) := by decide +kernel
theorem dX3_widened_53 : decode cX3_widened 53 = .ok (.lload_n 1, 1) := by decide +kernel
theorem dX3_widened_54 : decode cX3_widened 54 = .ok (.iload_n 3, 1) := by decide +kernel
theorem dX3_widened_55 : decode cX3_widened 55 = .ok (.i2l, 1) := by decide +kernel
theorem dX3_widened_56 : decode cX3_widened 56 = .ok (.bipush 29, 2) := by decide +kernel
theorem dX3_widened_58 : decode cX3_widened 58 = .ok (.lshl, 1) := by decide +kernel
theorem dX3_widened_59 : decode cX3_widened 59 = .ok (.ldc2_w 24, 3) := by decide +kernel
theorem dX3_widened_62 : decode cX3_widened 62 = .ok (.ladd, 1) := by decide +kernel
theorem dX3_widened_63 : decode cX3_widened 63 = .ok (.lor, 1) := by decide +kernel
theorem dX3_widened_64 : decode cX3_widened 64 = .ok (.lreturn, 1) := by decide +kernel
set_option maxRecDepth 20000 in
theorem ggX3_narrowed_X1_valueOfSize : GoodIn wsX3_narrowed wsX1_valueOfSize := goodIn_r _ [9, 10, 11, 12, 13, 14, 8, 15, 16, 17, 18, 19, 20, 21, 22, 23, 24, 25, 26, 27, 28, 29, 30, 31, 32, 33, 34, 35, 36, 37] (by decide +kernel) (by decide +kernel)
set_option maxRecDepth 20000 in
theorem gX3_narrowed_X1_valueOfSize : GoodIn wsX3_narrowed (va_wsS RX3 31 yX1_valueOfSize wsX1_valueOfSize) := goodIn_app (goodIn_of _ (by decide +kernel)) ggX3_narrowed_X1_valueOfSize
theorem dX3_narrowed_0 : decode cX3_narrowed 0 = .ok (.lload_n 0, 1) := by decide +kernel
theorem dX3_narrowed_1 : decode cX3_narrowed 1 = .ok (.lconst 0, 1) := by decide +kernel
theorem dX3_narrowed_2 : decode cX3_narrowed 2 = .ok (.lcmp, 1) := by decide +kernel
theorem dX3_narrowed_3 : decode cX3_narrowed 3 = .ok (.ifCond .ge 8, 3) := by decide +kernel
theorem dX3_narrowed_6 : decode cX3_narrowed 6 = .ok (.ldc 26, 2) := by decide +kernel
theorem dX3_narrowed_8 : decode cX3_narrowed 8 = .ok (.goto 4, 3) := by decide +kernel
theorem dX3_narrowed_11 : decode cX3_narrowed 11 = .ok (.iconst 0, 1) := by decide +kernel
theorem dX3_narrowed_12 : decode cX3_narrowed 12 = .ok (.istore_n 2, 1) := by decide +kernel
theorem dX3_narrowed_13 : decode cX3_narrowed 13 = .ok (.lload_n 0, 1) := by decide +kernel
theorem dX3_narrowed_14 : decode cX3_narrowed 14 = .ok (.ldc2_w 27, 3) := by decide +kernel
theorem dX3_narrowed_17 : decode cX3_narrowed 17 = .ok (.land, 1) := by decide +kernel
theorem dX3_narrowed_18 : decode cX3_narrowed 18 = .ok (.lstore_n 3, 1) := by decide +kernel
theorem dX3_narrowed_19 : decode cX3_narrowed 19 = .ok (.lload_n 3, 1) := by decide +kernel
theorem dX3_narrowed_20 : decode cX3_narrowed 20 = .ok (.ldc2_w 29, 3) := by decide +kernel
theorem dX3_narrowed_23 : decode cX3_narrowed 23 = .ok (.lcmp, 1) := by decide +kernel
theorem dX3_narrowed_24 : decode cX3_narrowed 24 = .ok (.ifCond .ge 15, 3) := by decide +kernel
theorem dX3_narrowed_27 : decode cX3_narrowed 27 = .ok (.iload_n 2, 1) := by decide +kernel
theorem dX3_narrowed_28 : decode cX3_narrowed 28 = .ok (.lload_n 3, 1) := by decide +kernel
theorem dX3_narrowed_29 : decode cX3_narrowed 29 = .ok (.invokestatic 31, 3) := by decide +kernel
theorem dX3_narrowed_32 : decode cX3_narrowed 32 = .ok (.ldc2_w 35, 3) := by decide +kernel
theorem dX3_narrowed_35 : decode cX3_narrowed 35 = .ok (.dmul, 1) := by decide +kernel
theorem dX3_narrowed_36 : decode cX3_narrowed 36 = .ok (.d2i, 1) := by decide +kernel
theorem dX3_narrowed_37 : decode cX3_narrowed 37 = .ok (.ior, 1) := by decide +kernel
theorem dX3_narrowed_38 : decode cX3_narrowed 38 = .ok (.ireturn, 1) := by decide +kernel
theorem dX3_narrowed_39 : decode cX3_narrowed 39 = .ok (.iload_n 2, 1) := by decide +kernel
theorem dX3_narrowed_40 : decode cX3_narrowed 40 = .ok (.lload_n 3, 1) := by decide +kernel
theorem dX3_narrowed_41 : decode cX3_narrowed 41 = .ok (.ldc2_w 24, 3) := by decide +kernel
theorem dX3_narrowed_44 : decode cX3_narrowed 44 = .ok (.lsub, 1) := by decide +kernel
theorem dX3_narrowed_45 : decode cX3_narrowed 45 = .ok (.bipush 29, 2) := by decide +kernel
theorem dX3_narrowed_47 : decode cX3_narrowed 47 = .ok (.lushr, 1) := by decide +kernel
theorem dX3_narrowed_48 : decode cX3_narrowed 48 = .ok (.l2i, 1) := by decide +kernel
theorem dX3_narrowed_49 : decode cX3_narrowed 49 = .ok (.ior, 1) := by decide +kernel
theorem dX3_narrowed_50 : decode cX3_narrowed 50 = .ok (.ireturn, 1) := by decide +kernel
theorem dX4_init_0 : decode cX4_init 0 = .ok (.aload_n 0, 1) := by decide +kernel
theorem dX4_init_1 : decode cX4_init 1 = .ok (.invokespecial 1, 3) := by decide +kernel
theorem dX4_init_4 : decode cX4_init 4 = .ok (.aload_n 0, 1) := by decide +kernel
theorem dX4_init_5 : decode cX4_init 5 = .ok (.bipush 16, 2) := by decide +kernel
theorem dX4_init_7 : decode cX4_init 7 = .ok (.newarray .int, 2) := by decide +kernel
theorem dX4_init_9 : decode cX4_init 9 = .ok (.putfield 9, 3) := by decide +kernel
theorem dX4_init_12 : decode cX4_init 12 = .ok (.aload_n 0, 1) := by decide +kernel
theorem dX4_init_13 : decode cX4_init 13 = .ok (.bipush 16, 2) := by decide +kernel
theorem dX4_init_15 : decode cX4_init 15 = .ok (.newarray .long, 2) := by decide +kernel
theorem dX4_init_17 : decode cX4_init 17 = .ok (.putfield 13, 3) := by decide +kernel
theorem dX4_init_20 : decode cX4_init 20 = .ok (.aload_n 0, 1) := by decide +kernel
theorem dX4_init_21 : decode cX4_init 21 = .ok (.bipush 16, 2) := by decide +kernel
theorem dX4_init_23 : decode cX4_init 23 = .ok (.newarray .long, 2) := by decide +kernel
theorem dX4_init_25 : decode cX4_init 25 = .ok (.putfield 17, 3) := by decide +kernel
theorem dX4_init_28 : decode cX4_init 28 = .ok (.return_, 1) := by decide +kernel
theorem dX4_keep_0 : decode cX4_keep 0 = .ok (.aload_n 0, 1) := by decide +kernel
theorem dX4_keep_1 : decode cX4_keep 1 = .ok (.getfield 9, 3) := by decide +kernel
theorem dX4_keep_4 : decode cX4_keep 4 = .ok (.aload_n 0, 1) := by decide +kernel
theorem dX4_keep_5 : decode cX4_keep 5 = .ok (.getfield 20, 3) := by decide +kernel
theorem dX4_keep_8 : decode cX4_keep 8 = .ok (.iload_n 1, 1) := by decide +kernel
theorem dX4_keep_9 : decode cX4_keep 9 = .ok (.iastore, 1) := by decide +kernel
theorem dX4_keep_10 : decode cX4_keep 10 = .ok (.aload_n 0, 1) := by decide +kernel
theorem dX4_keep_11 : decode cX4_keep 11 = .ok (.getfield 13, 3) := by decide +kernel
theorem dX4_keep_14 : decode cX4_keep 14 = .ok (.aload_n 0, 1) := by decide +kernel
theorem dX4_keep_15 : decode cX4_keep 15 = .ok (.getfield 20, 3) := by decide +kernel
theorem dX4_keep_18 : decode cX4_keep 18 = .ok (.lload_n 2, 1) := by decide +kernel
theorem dX4_keep_19 : decode cX4_keep 19 = .ok (.lastore, 1) := by decide +kernel
theorem dX4_keep_20 : decode cX4_keep 20 = .ok (.aload_n 0, 1) := by decide +kernel
theorem dX4_keep_21 : decode cX4_keep 21 = .ok (.getfield 17, 3) := by decide +kernel
theorem dX4_keep_24 : decode cX4_keep 24 = .ok (.aload_n 0, 1) := by decide +kernel
theorem dX4_keep_25 : decode cX4_keep 25 = .ok (.getfield 20, 3) := by decide +kernel
theorem dX4_keep_28 : decode cX4_keep 28 = .ok (.lload 4, 2) := by decide +kernel
theorem dX4_keep_30 : decode cX4_keep 30 = .ok (.lastore, 1) := by decide +kernel
theorem dX4_keep_31 : decode cX4_keep 31 = .ok (.aload_n 0, 1) := by decide +kernel
theorem dX4_keep_32 : decode cX4_keep 32 = .ok (.aload_n 0, 1) := by decide +kernel
theorem dX4_keep_33 : decode cX4_keep 33 = .ok (.getfield 20, 3) := by decide +kernel
theorem dX4_keep_36 : decode cX4_keep 36 = .ok (.iconst 1, 1) := by decide +kernel
theorem dX4_keep_37 : decode cX4_keep 37 = .ok (.iadd, 1) := by decide +kernel
theorem dX4_keep_38 : decode cX4_keep 38 = .ok (.bipush 16, 2) := by decide +kernel
theorem dX4_keep_40 : decode cX4_keep 40 = .ok (.irem, 1) := by decide +kernel
theorem dX4_keep_41 : decode cX4_keep 41 = .ok (.putfield 20, 3) := by decide +kernel
theorem dX4_keep_44 : decode cX4_keep 44 = .ok (.aload_n 0, 1) := by decide +kernel
theorem dX4_keep_45 : decode cX4_keep 45 = .ok (.getfield 24, 3) := by decide +kernel
theorem dX4_keep_48 : decode cX4_keep 48 = .ok (.bipush 16, 2) := by decide +kernel
theorem dX4_keep_50 : decode cX4_keep 50 = .ok (.if_icmp .ge 13, 3) := by decide +kernel
theorem dX4_keep_53 : decode cX4_keep 53 = .ok (.aload_n 0, 1) := by decide +kernel
theorem dX4_keep_54 : decode cX4_keep 54 = .ok (.dup, 1) := by decide +kernel
theorem dX4_keep_55 : decode cX4_keep 55 = .ok (.getfield 24, 3) := by decide +kernel
theorem dX4_keep_58 : decode cX4_keep 58 = .ok (.iconst 1, 1) := by decide +kernel
theorem dX4_keep_59 : decode cX4_keep 59 = .ok (.iadd, 1) := by decide +kernel
theorem dX4_keep_60 : decode cX4_keep 60 = .ok (.putfield 24, 3) := by decide +kernel
theorem dX4_keep_63 : decode cX4_keep 63 = .ok (.return_, 1) := by decide +kernel
theorem dX4_takeLatest_0 : decode cX4_takeLatest 0 = .ok (.aload_n 0, 1) := by decide +kernel
theorem dX4_takeLatest_1 : decode cX4_takeLatest 1 = .ok (.aload_n 0, 1) := by decide +kernel
theorem dX4_takeLatest_2 : decode cX4_takeLatest 2 = .ok (.getfield 20, 3) := by decide +kernel
theorem dX4_takeLatest_5 : decode cX4_takeLatest 5 = .ok (.bipush 16, 2) := by decide +kernel
theorem dX4_takeLatest_7 : decode cX4_takeLatest 7 = .ok (.iadd, 1) := by decide +kernel
theorem dX4_takeLatest_8 : decode cX4_takeLatest 8 = .ok (.iconst 1, 1) := by decide +kernel
theorem dX4_takeLatest_9 : decode cX4_takeLatest 9 = .ok (.isub, 1) := by decide +kernel
theorem dX4_takeLatest_10 : decode cX4_takeLatest 10 = .ok (.bipush 16, 2) := by decide +kernel
theorem dX4_takeLatest_12 : decode cX4_takeLatest 12 = .ok (.irem, 1) := by decide +kernel
theorem dX4_takeLatest_13 : decode cX4_takeLatest 13 = .ok (.putfield 20, 3) := by decide +kernel
theorem dX4_takeLatest_16 : decode cX4_takeLatest 16 = .ok (.aload_n 0, 1) := by decide +kernel
theorem dX4_takeLatest_17 : decode cX4_takeLatest 17 = .ok (.dup, 1) := by decide +kernel
theorem dX4_takeLatest_18 : decode cX4_takeLatest 18 = .ok (.getfield 24, 3) := by decide +kernel
theorem dX4_takeLatest_21 : decode cX4_takeLatest 21 = .ok (.iconst 1, 1) := by decide +kernel
theorem dX4_takeLatest_22 : decode cX4_takeLatest 22 = .ok (.isub, 1) := by decide +kernel
theorem dX4_takeLatest_23 : decode cX4_takeLatest 23 = .ok (.putfield 24, 3) := by decide +kernel
theorem dX4_takeLatest_26 : decode cX4_takeLatest 26 = .ok (.aload_n 0, 1) := by decide +kernel
theorem dX4_takeLatest_27 : decode cX4_takeLatest 27 = .ok (.getfield 20, 3) := by decide +kernel
theorem dX4_takeLatest_30 : decode cX4_takeLatest 30 = .ok (.ireturn, 1) := by decide +kernel
theorem dX4_clear_0 : decode cX4_clear 0 = .ok (.aload_n 0, 1) := by decide +kernel
theorem dX4_clear_1 : decode cX4_clear 1 = .ok (.iconst 0, 1) := by decide +kernel
theorem dX4_clear_2 : decode cX4_clear 2 = .ok (.putfield 24, 3) := by decide +kernel
theorem dX4_clear_5 : decode cX4_clear 5 = .ok (.return_, 1) := by decide +kernel
theorem dX5_isWay_0 : decode cX5_isWay 0 = .ok (.iload_n 0, 1) := by decide +kernel
theorem dX5_isWay_1 : decode cX5_isWay 1 = .ok (.ifCond .lt 12, 3) := by decide +kernel
theorem dX5_isWay_4 : decode cX5_isWay 4 = .ok (.iload_n 0, 1) := by decide +kernel
theorem dX5_isWay_5 : decode cX5_isWay 5 = .ok (.iconst 3, 1) := by decide +kernel
theorem dX5_isWay_6 : decode cX5_isWay 6 = .ok (.if_icmp .gt 7, 3) := by decide +kernel
theorem dX5_isWay_9 : decode cX5_isWay 9 = .ok (.iconst 1, 1) := by decide +kernel
theorem dX5_isWay_10 : decode cX5_isWay 10 = .ok (.goto 4, 3) := by decide +kernel
theorem dX5_isWay_13 : decode cX5_isWay 13 = .ok (.iconst 0, 1) := by decide +kernel
theorem dX5_isWay_14 : decode cX5_isWay 14 = .ok (.ireturn, 1) := by decide +kernel
set_option maxRecDepth 20000 in
theorem ggX5_whole_X1_valueOfSize : GoodIn wsX5_whole wsX1_valueOfSize := goodIn_r _ [7, 8, 9, 10, 11, 12, 6, 13, 14, 15, 16, 17, 18, 19, 20, 21, 22, 23, 24, 25, 26, 27, 28, 29, 30, 31, 32, 33, 34, 35] (by decide +kernel) (by decide +kernel)
set_option maxRecDepth 20000 in
theorem gX5_whole_X1_valueOfSize : GoodIn wsX5_whole (va_wsS RX5 15 yX1_valueOfSize wsX1_valueOfSize) := goodIn_app (goodIn_of _ (by decide +kernel)) ggX5_whole_X1_valueOfSize
set_option maxRecDepth 20000 in
theorem ggX5_whole_X5_growsInSize : GoodIn wsX5_whole wsX5_growsInSize := goodIn_r _ [39, 40] (by decide +kernel) (by decide +kernel)
set_option maxRecDepth 20000 in
theorem gX5_whole_X5_growsInSize : GoodIn wsX5_whole (va_wsS RX5 21 yX5_growsInSize wsX5_growsInSize) := goodIn_app (goodIn_of _ (by decide +kernel)) ggX5_whole_X5_growsInSize
set_option maxRecDepth 20000 in
theorem ggX5_whole_X1_ofSize : GoodIn wsX5_whole wsX1_ofSize := goodIn_r _ [43, 14, 44, 15, 16, 17, 18, 19, 45, 46, 47, 23, 24, 25, 26, 27, 28, 29, 30, 31, 32, 33, 34, 35, 48, 49, 50, 20, 21, 22] (by decide +kernel) (by decide +kernel)
set_option maxRecDepth 20000 in
theorem gX5_whole_X1_ofSize : GoodIn wsX5_whole (va_wsS RX5 25 yX1_ofSize wsX1_ofSize) := goodIn_app (goodIn_of _ (by decide +kernel)) ggX5_whole_X1_ofSize
set_option maxRecDepth 20000 in
theorem ggX5_whole_X1_withSignOf : GoodIn wsX5_whole wsX1_withSignOf := goodIn_r _ [53, 8, 54] (by decide +kernel) (by decide +kernel)
set_option maxRecDepth 20000 in
theorem gX5_whole_X1_withSignOf : GoodIn wsX5_whole (va_wsS RX5 29 yX1_withSignOf wsX1_withSignOf) := goodIn_app (goodIn_of _ (by decide +kernel)) ggX5_whole_X1_withSignOf
theorem dX5_whole_0 : decode cX5_whole 0 = .ok (.lload_n 0, 1) := by decide +kernel
theorem dX5_whole_1 : decode cX5_whole 1 = .ok (.ldc2_w 11, 3) := by decide +kernel
theorem dX5_whole_4 : decode cX5_whole 4 = .ok (.land, 1) := by decide +kernel
theorem dX5_whole_5 : decode cX5_whole 5 = .ok (.ldc2_w 13, 3) := by decide +kernel
theorem dX5_whole_8 : decode cX5_whole 8 = .ok (.lcmp, 1) := by decide +kernel
theorem dX5_whole_9 : decode cX5_whole 9 = .ok (.ifCond .lt 5, 3) := by decide +kernel
theorem dX5_whole_12 : decode cX5_whole 12 = .ok (.lload_n 0, 1) := by decide +kernel
theorem dX5_whole_13 : decode cX5_whole 13 = .ok (.lreturn, 1) := by decide +kernel
theorem dX5_whole_14 : decode cX5_whole 14 = .ok (.lload_n 0, 1) := by decide +kernel
theorem dX5_whole_15 : decode cX5_whole 15 = .ok (.invokestatic 15, 3) := by decide +kernel
theorem dX5_whole_18 : decode cX5_whole 18 = .ok (.dstore_n 3, 1) := by decide +kernel
theorem dX5_whole_19 : decode cX5_whole 19 = .ok (.dload_n 3, 1) := by decide +kernel
theorem dX5_whole_20 : decode cX5_whole 20 = .ok (.d2l, 1) := by decide +kernel
theorem dX5_whole_21 : decode cX5_whole 21 = .ok (.lstore 5, 2) := by decide +kernel
theorem dX5_whole_23 : decode cX5_whole 23 = .ok (.dload_n 3, 1) := by decide +kernel
theorem dX5_whole_24 : decode cX5_whole 24 = .ok (.lload 5, 2) := by decide +kernel
theorem dX5_whole_26 : decode cX5_whole 26 = .ok (.l2d, 1) := by decide +kernel
theorem dX5_whole_27 : decode cX5_whole 27 = .ok (.dsub, 1) := by decide +kernel
theorem dX5_whole_28 : decode cX5_whole 28 = .ok (.lload 5, 2) := by decide +kernel
theorem dX5_whole_30 : decode cX5_whole 30 = .ok (.ldc2_w 19, 3) := by decide +kernel
theorem dX5_whole_33 : decode cX5_whole 33 = .ok (.lrem, 1) := by decide +kernel
theorem dX5_whole_34 : decode cX5_whole 34 = .ok (.lconst 0, 1) := by decide +kernel
theorem dX5_whole_35 : decode cX5_whole 35 = .ok (.lcmp, 1) := by decide +kernel
theorem dX5_whole_36 : decode cX5_whole 36 = .ok (.ifCond .eq 7, 3) := by decide +kernel
theorem dX5_whole_39 : decode cX5_whole 39 = .ok (.iconst 1, 1) := by decide +kernel
theorem dX5_whole_40 : decode cX5_whole 40 = .ok (.goto 4, 3) := by decide +kernel
theorem dX5_whole_43 : decode cX5_whole 43 = .ok (.iconst 0, 1) := by decide +kernel
theorem dX5_whole_44 : decode cX5_whole 44 = .ok (.lload_n 0, 1) := by decide +kernel
theorem dX5_whole_45 : decode cX5_whole 45 = .ok (.lconst 0, 1) := by decide +kernel
theorem dX5_whole_46 : decode cX5_whole 46 = .ok (.lcmp, 1) := by decide +kernel
theorem dX5_whole_47 : decode cX5_whole 47 = .ok (.ifCond .ge 7, 3) := by decide +kernel
theorem dX5_whole_50 : decode cX5_whole 50 = .ok (.iconst 1, 1) := by decide +kernel
theorem dX5_whole_51 : decode cX5_whole 51 = .ok (.goto 4, 3) := by decide +kernel
theorem dX5_whole_54 : decode cX5_whole 54 = .ok (.iconst 0, 1) := by decide +kernel
theorem dX5_whole_55 : decode cX5_whole 55 = .ok (.iload_n 2, 1) := by decide +kernel
theorem dX5_whole_56 : decode cX5_whole 56 = .ok (.invokestatic 21, 3) := by decide +kernel
theorem dX5_whole_59 : decode cX5_whole 59 = .ok (.istore 7, 2) := by decide +kernel
theorem dX5_whole_61 : decode cX5_whole 61 = .ok (.iload 7, 2) := by decide +kernel
theorem dX5_whole_63 : decode cX5_whole 63 = .ok (.ifCond .eq 11, 3) := by decide +kernel
theorem dX5_whole_66 : decode cX5_whole 66 = .ok (.lload 5, 2) := by decide +kernel
theorem dX5_whole_68 : decode cX5_whole 68 = .ok (.lconst 1, 1) := by decide +kernel
theorem dX5_whole_69 : decode cX5_whole 69 = .ok (.ladd, 1) := by decide +kernel
theorem dX5_whole_70 : decode cX5_whole 70 = .ok (.l2d, 1) := by decide +kernel
theorem dX5_whole_71 : decode cX5_whole 71 = .ok (.goto 6, 3) := by decide +kernel
theorem dX5_whole_74 : decode cX5_whole 74 = .ok (.lload 5, 2) := by decide +kernel
theorem dX5_whole_76 : decode cX5_whole 76 = .ok (.l2d, 1) := by decide +kernel
theorem dX5_whole_77 : decode cX5_whole 77 = .ok (.invokestatic 25, 3) := by decide +kernel
theorem dX5_whole_80 : decode cX5_whole 80 = .ok (.lload_n 0, 1) := by decide +kernel
theorem dX5_whole_81 : decode cX5_whole 81 = .ok (.invokestatic 29, 3) := by decide +kernel
theorem dX5_whole_84 : decode cX5_whole 84 = .ok (.lreturn, 1) := by decide +kernel
theorem dX5_growsInSize_0 : decode cX5_growsInSize 0 = .ok (.iload 4, 2) := by decide +kernel
theorem dX5_growsInSize_2 : decode cX5_growsInSize 2 = .ok (.tableswitch 84 0 2 #[26, 42, 58], 26) := by decide +kernel
theorem dX5_growsInSize_28 : decode cX5_growsInSize 28 = .ok (.iload_n 3, 1) := by decide +kernel
theorem dX5_growsInSize_29 : decode cX5_growsInSize 29 = .ok (.ifCond .eq 13, 3) := by decide +kernel
theorem dX5_growsInSize_32 : decode cX5_growsInSize 32 = .ok (.dload_n 0, 1) := by decide +kernel
theorem dX5_growsInSize_33 : decode cX5_growsInSize 33 = .ok (.dconst 0, 1) := by decide +kernel
theorem dX5_growsInSize_34 : decode cX5_growsInSize 34 = .ok (.dcmp .l, 1) := by decide +kernel
theorem dX5_growsInSize_35 : decode cX5_growsInSize 35 = .ok (.ifCond .le 7, 3) := by decide +kernel
theorem dX5_growsInSize_38 : decode cX5_growsInSize 38 = .ok (.iconst 1, 1) := by decide +kernel
theorem dX5_growsInSize_39 : decode cX5_growsInSize 39 = .ok (.goto 4, 3) := by decide +kernel
theorem dX5_growsInSize_42 : decode cX5_growsInSize 42 = .ok (.iconst 0, 1) := by decide +kernel
theorem dX5_growsInSize_43 : decode cX5_growsInSize 43 = .ok (.ireturn, 1) := by decide +kernel
theorem dX5_growsInSize_44 : decode cX5_growsInSize 44 = .ok (.iload_n 3, 1) := by decide +kernel
theorem dX5_growsInSize_45 : decode cX5_growsInSize 45 = .ok (.ifCond .ne 13, 3) := by decide +kernel
theorem dX5_growsInSize_48 : decode cX5_growsInSize 48 = .ok (.dload_n 0, 1) := by decide +kernel
theorem dX5_growsInSize_49 : decode cX5_growsInSize 49 = .ok (.dconst 0, 1) := by decide +kernel
theorem dX5_growsInSize_50 : decode cX5_growsInSize 50 = .ok (.dcmp .l, 1) := by decide +kernel
theorem dX5_growsInSize_51 : decode cX5_growsInSize 51 = .ok (.ifCond .le 7, 3) := by decide +kernel
theorem dX5_growsInSize_54 : decode cX5_growsInSize 54 = .ok (.iconst 1, 1) := by decide +kernel
theorem dX5_growsInSize_55 : decode cX5_growsInSize 55 = .ok (.goto 4, 3) := by decide +kernel
theorem dX5_growsInSize_58 : decode cX5_growsInSize 58 = .ok (.iconst 0, 1) := by decide +kernel
theorem dX5_growsInSize_59 : decode cX5_growsInSize 59 = .ok (.ireturn, 1) := by decide +kernel
theorem dX5_growsInSize_60 : decode cX5_growsInSize 60 = .ok (.dload_n 0, 1) := by decide +kernel
theorem dX5_growsInSize_61 : decode cX5_growsInSize 61 = .ok (.ldc2_w 33, 3) := by decide +kernel
theorem dX5_growsInSize_64 : decode cX5_growsInSize 64 = .ok (.dcmp .l, 1) := by decide +kernel
theorem dX5_growsInSize_65 : decode cX5_growsInSize 65 = .ok (.ifCond .gt 15, 3) := by decide +kernel
theorem dX5_growsInSize_68 : decode cX5_growsInSize 68 = .ok (.dload_n 0, 1) := by decide +kernel
theorem dX5_growsInSize_69 : decode cX5_growsInSize 69 = .ok (.ldc2_w 33, 3) := by decide +kernel
theorem dX5_growsInSize_72 : decode cX5_growsInSize 72 = .ok (.dcmp .l, 1) := by decide +kernel
theorem dX5_growsInSize_73 : decode cX5_growsInSize 73 = .ok (.ifCond .ne 11, 3) := by decide +kernel
theorem dX5_growsInSize_76 : decode cX5_growsInSize 76 = .ok (.iload_n 2, 1) := by decide +kernel
theorem dX5_growsInSize_77 : decode cX5_growsInSize 77 = .ok (.ifCond .eq 7, 3) := by decide +kernel
theorem dX5_growsInSize_80 : decode cX5_growsInSize 80 = .ok (.iconst 1, 1) := by decide +kernel
theorem dX5_growsInSize_81 : decode cX5_growsInSize 81 = .ok (.goto 4, 3) := by decide +kernel
theorem dX5_growsInSize_84 : decode cX5_growsInSize 84 = .ok (.iconst 0, 1) := by decide +kernel
theorem dX5_growsInSize_85 : decode cX5_growsInSize 85 = .ok (.ireturn, 1) := by decide +kernel
theorem dX5_growsInSize_86 : decode cX5_growsInSize 86 = .ok (.iconst 0, 1) := by decide +kernel
theorem dX5_growsInSize_87 : decode cX5_growsInSize 87 = .ok (.ireturn, 1) := by decide +kernel
set_option maxRecDepth 20000 in
theorem ggX6_init_X0_init : GoodIn wsX6_init wsX0_init := goodIn_r _ [18, 19, 2, 3, 13, 20, 21, 22, 23, 24, 25, 26, 27, 35, 36, 37, 38, 39] (by decide +kernel) (by decide +kernel)
set_option maxRecDepth 20000 in
theorem gX6_init_X0_init : GoodIn wsX6_init (wsX0_init) := ggX6_init_X0_init
set_option maxRecDepth 20000 in
theorem ggX6_init_X4_init : GoodIn wsX6_init wsX4_init := goodIn_r _ [29, 30, 2, 3, 31, 32, 13, 33, 34, 47, 48, 49, 50, 51] (by decide +kernel) (by decide +kernel)
set_option maxRecDepth 20000 in
theorem gX6_init_X4_init_n23 : GoodIn wsX6_init (wsX4_init) := ggX6_init_X4_init
theorem dX6_init_0 : decode cX6_init 0 = .ok (.aload_n 0, 1) := by decide +kernel
theorem dX6_init_1 : decode cX6_init 1 = .ok (.invokespecial 1, 3) := by decide +kernel
theorem dX6_init_4 : decode cX6_init 4 = .ok (.aload_n 0, 1) := by decide +kernel
theorem dX6_init_5 : decode cX6_init 5 = .ok (.new 7, 3) := by decide +kernel
theorem dX6_init_8 : decode cX6_init 8 = .ok (.dup, 1) := by decide +kernel
theorem dX6_init_9 : decode cX6_init 9 = .ok (.iconst 0, 1) := by decide +kernel
theorem dX6_init_10 : decode cX6_init 10 = .ok (.invokespecial 9, 3) := by decide +kernel
theorem dX6_init_13 : decode cX6_init 13 = .ok (.putfield 12, 3) := by decide +kernel
theorem dX6_init_16 : decode cX6_init 16 = .ok (.aload_n 0, 1) := by decide +kernel
theorem dX6_init_17 : decode cX6_init 17 = .ok (.new 7, 3) := by decide +kernel
theorem dX6_init_20 : decode cX6_init 20 = .ok (.dup, 1) := by decide +kernel
theorem dX6_init_21 : decode cX6_init 21 = .ok (.iconst 1, 1) := by decide +kernel
theorem dX6_init_22 : decode cX6_init 22 = .ok (.invokespecial 9, 3) := by decide +kernel
theorem dX6_init_25 : decode cX6_init 25 = .ok (.putfield 18, 3) := by decide +kernel
theorem dX6_init_28 : decode cX6_init 28 = .ok (.aload_n 0, 1) := by decide +kernel
theorem dX6_init_29 : decode cX6_init 29 = .ok (.new 21, 3) := by decide +kernel
theorem dX6_init_32 : decode cX6_init 32 = .ok (.dup, 1) := by decide +kernel
theorem dX6_init_33 : decode cX6_init 33 = .ok (.invokespecial 23, 3) := by decide +kernel
theorem dX6_init_36 : decode cX6_init 36 = .ok (.putfield 24, 3) := by decide +kernel
theorem dX6_init_39 : decode cX6_init 39 = .ok (.aload_n 0, 1) := by decide +kernel
theorem dX6_init_40 : decode cX6_init 40 = .ok (.iconst 4, 1) := by decide +kernel
theorem dX6_init_41 : decode cX6_init 41 = .ok (.newarray .long, 2) := by decide +kernel
theorem dX6_init_43 : decode cX6_init 43 = .ok (.putfield 28, 3) := by decide +kernel
theorem dX6_init_46 : decode cX6_init 46 = .ok (.iconst 0, 1) := by decide +kernel
theorem dX6_init_47 : decode cX6_init 47 = .ok (.istore_n 1, 1) := by decide +kernel
theorem dX6_init_48 : decode cX6_init 48 = .ok (.iload_n 1, 1) := by decide +kernel
theorem dX6_init_49 : decode cX6_init 49 = .ok (.iconst 4, 1) := by decide +kernel
theorem dX6_init_50 : decode cX6_init 50 = .ok (.if_icmp .ge 18, 3) := by decide +kernel
theorem dX6_init_53 : decode cX6_init 53 = .ok (.aload_n 0, 1) := by decide +kernel
theorem dX6_init_54 : decode cX6_init 54 = .ok (.getfield 28, 3) := by decide +kernel
theorem dX6_init_57 : decode cX6_init 57 = .ok (.iload_n 1, 1) := by decide +kernel
theorem dX6_init_58 : decode cX6_init 58 = .ok (.ldc2_w 34, 3) := by decide +kernel
theorem dX6_init_61 : decode cX6_init 61 = .ok (.lastore, 1) := by decide +kernel
theorem dX6_init_62 : decode cX6_init 62 = .ok (.iinc 1 1, 3) := by decide +kernel
theorem dX6_init_65 : decode cX6_init 65 = .ok (.goto (-17), 3) := by decide +kernel
theorem dX6_init_68 : decode cX6_init 68 = .ok (.return_, 1) := by decide +kernel
set_option maxRecDepth 20000 in
theorem ggX6_place_X3_widened : GoodIn wsX6_place wsX3_widened := goodIn_r _ [4, 5, 6, 7, 8, 9, 10, 11, 12, 13, 14, 15, 16, 17, 18, 19, 20, 21, 22, 23, 24, 25, 26, 27, 28, 29, 30, 31, 32, 33, 34, 35, 36, 37, 38, 39, 40, 41, 42, 43, 44] (by decide +kernel) (by decide +kernel)
set_option maxRecDepth 20000 in
theorem gX6_place_X3_widened : GoodIn wsX6_place (va_wsS RX6 36 yX3_widened wsX3_widened) := goodIn_app (goodIn_of _ (by decide +kernel)) ggX6_place_X3_widened
set_option maxRecDepth 20000 in
theorem ggX6_place_X6_isPoint : GoodIn wsX6_place wsX6_isPoint := goodIn_r _ [48] (by decide +kernel) (by decide +kernel)
set_option maxRecDepth 20000 in
theorem gX6_place_X6_isPoint : GoodIn wsX6_place (va_wsS RX6 42 yX6_isPoint wsX6_isPoint) := goodIn_app (goodIn_of _ (by decide +kernel)) ggX6_place_X6_isPoint
set_option maxRecDepth 20000 in
theorem ggX6_place_X6_refuse : GoodIn wsX6_place wsX6_refuse := goodIn_r _ [52, 53, 104, 105, 106, 107, 108, 109, 110] (by decide +kernel) (by decide +kernel)
set_option maxRecDepth 20000 in
theorem gX6_place_X6_refuse : GoodIn wsX6_place (wsV RX6 46 RX6 yX6_refuse wsX6_refuse) := goodIn_app (goodIn_of _ (by decide +kernel)) ggX6_place_X6_refuse
set_option maxRecDepth 20000 in
theorem ggX6_place_X1_isNone : GoodIn wsX6_place wsX1_isNone := goodIn_r _ [56, 57, 16] (by decide +kernel) (by decide +kernel)
set_option maxRecDepth 20000 in
theorem gX6_place_X1_isNone : GoodIn wsX6_place (va_wsS RX6 50 yX1_isNone wsX1_isNone) := goodIn_app (goodIn_of _ (by decide +kernel)) ggX6_place_X1_isNone
set_option maxRecDepth 20000 in
theorem ggX6_place_X1_isInfinite : GoodIn wsX6_place wsX1_isInfinite := goodIn_r _ [60, 57, 16] (by decide +kernel) (by decide +kernel)
set_option maxRecDepth 20000 in
theorem gX6_place_X1_isInfinite : GoodIn wsX6_place (va_wsS RX6 54 yX1_isInfinite wsX1_isInfinite) := goodIn_app (goodIn_of _ (by decide +kernel)) ggX6_place_X1_isInfinite
set_option maxRecDepth 20000 in
theorem ggX6_place_X6_putWalled : GoodIn wsX6_place wsX6_putWalled := goodIn_r _ [64, 65, 66, 67, 68, 69, 70, 71, 72, 73, 74, 75, 76, 14, 77, 78, 79, 80, 57, 81, 82, 83, 58, 59, 60, 16, 49, 50, 51, 47, 52, 53, 84, 85, 86, 87, 88, 89, 90, 91, 92, 93, 94, 95, 96, 97, 98, 99, 100, 101, 102, 103, 104, 105, 106, 107, 108, 109, 110, 111, 112, 113, 114, 115, 116, 117, 118, 119, 120] (by decide +kernel) (by decide +kernel)
set_option maxRecDepth 20000 in
theorem gX6_place_X6_putWalled : GoodIn wsX6_place (wsV RX6 57 RX6 yX6_putWalled wsX6_putWalled) := goodIn_app (goodIn_of _ (by decide +kernel)) ggX6_place_X6_putWalled
theorem dX6_place_0 : decode cX6_place 0 = .ok (.iload 4, 2) := by decide +kernel
theorem dX6_place_2 : decode cX6_place 2 = .ok (.invokestatic 36, 3) := by decide +kernel
theorem dX6_place_5 : decode cX6_place 5 = .ok (.lstore 5, 2) := by decide +kernel
theorem dX6_place_7 : decode cX6_place 7 = .ok (.iload_n 1, 1) := by decide +kernel
theorem dX6_place_8 : decode cX6_place 8 = .ok (.invokestatic 42, 3) := by decide +kernel
theorem dX6_place_11 : decode cX6_place 11 = .ok (.ifCond .ne 9, 3) := by decide +kernel
theorem dX6_place_14 : decode cX6_place 14 = .ok (.aload_n 0, 1) := by decide +kernel
theorem dX6_place_15 : decode cX6_place 15 = .ok (.iconst 1, 1) := by decide +kernel
theorem dX6_place_16 : decode cX6_place 16 = .ok (.invokevirtual 46, 3) := by decide +kernel
theorem dX6_place_19 : decode cX6_place 19 = .ok (.ireturn, 1) := by decide +kernel
theorem dX6_place_20 : decode cX6_place 20 = .ok (.lload_n 2, 1) := by decide +kernel
theorem dX6_place_21 : decode cX6_place 21 = .ok (.invokestatic 50, 3) := by decide +kernel
theorem dX6_place_24 : decode cX6_place 24 = .ok (.ifCond .ne 11, 3) := by decide +kernel
theorem dX6_place_27 : decode cX6_place 27 = .ok (.lload 5, 2) := by decide +kernel
theorem dX6_place_29 : decode cX6_place 29 = .ok (.invokestatic 50, 3) := by decide +kernel
theorem dX6_place_32 : decode cX6_place 32 = .ok (.ifCond .eq 9, 3) := by decide +kernel
theorem dX6_place_35 : decode cX6_place 35 = .ok (.aload_n 0, 1) := by decide +kernel
theorem dX6_place_36 : decode cX6_place 36 = .ok (.iconst 2, 1) := by decide +kernel
theorem dX6_place_37 : decode cX6_place 37 = .ok (.invokevirtual 46, 3) := by decide +kernel
theorem dX6_place_40 : decode cX6_place 40 = .ok (.ireturn, 1) := by decide +kernel
theorem dX6_place_41 : decode cX6_place 41 = .ok (.lload_n 2, 1) := by decide +kernel
theorem dX6_place_42 : decode cX6_place 42 = .ok (.invokestatic 54, 3) := by decide +kernel
theorem dX6_place_45 : decode cX6_place 45 = .ok (.ifCond .ne 11, 3) := by decide +kernel
theorem dX6_place_48 : decode cX6_place 48 = .ok (.lload 5, 2) := by decide +kernel
theorem dX6_place_50 : decode cX6_place 50 = .ok (.invokestatic 54, 3) := by decide +kernel
theorem dX6_place_53 : decode cX6_place 53 = .ok (.ifCond .eq 9, 3) := by decide +kernel
theorem dX6_place_56 : decode cX6_place 56 = .ok (.aload_n 0, 1) := by decide +kernel
theorem dX6_place_57 : decode cX6_place 57 = .ok (.iconst 3, 1) := by decide +kernel
theorem dX6_place_58 : decode cX6_place 58 = .ok (.invokevirtual 46, 3) := by decide +kernel
theorem dX6_place_61 : decode cX6_place 61 = .ok (.ireturn, 1) := by decide +kernel
theorem dX6_place_62 : decode cX6_place 62 = .ok (.aload_n 0, 1) := by decide +kernel
theorem dX6_place_63 : decode cX6_place 63 = .ok (.iload_n 1, 1) := by decide +kernel
theorem dX6_place_64 : decode cX6_place 64 = .ok (.lload_n 2, 1) := by decide +kernel
theorem dX6_place_65 : decode cX6_place 65 = .ok (.lload 5, 2) := by decide +kernel
theorem dX6_place_67 : decode cX6_place 67 = .ok (.invokevirtual 57, 3) := by decide +kernel
theorem dX6_place_70 : decode cX6_place 70 = .ok (.ireturn, 1) := by decide +kernel
set_option maxRecDepth 20000 in
theorem ggX6_walls_X6_fence : GoodIn wsX6_walls wsX6_fence := goodIn_r _ [6, 7, 8, 9, 10, 11, 12, 13, 14, 15, 16, 17, 5, 18, 19, 20, 21, 22, 23, 24, 25, 26, 27, 28, 29, 30, 31, 32, 33, 34, 35, 36, 37, 38, 39, 40, 41, 42, 43, 44, 45, 46, 47, 48, 49, 50, 51, 52, 53, 54, 55, 56, 57, 58, 59, 60, 61, 62, 63, 64, 65, 66, 67, 68, 69, 70, 71, 72, 73, 74, 75, 76, 77, 78, 79, 80, 81, 82, 83, 84, 85, 86, 87, 88, 89, 90, 91, 92, 93, 94, 95, 96, 97, 98, 99, 100] (by decide +kernel) (by decide +kernel)
set_option maxRecDepth 20000 in
theorem gX6_walls_X6_fence : GoodIn wsX6_walls (wsV RX6 61 RX6 yX6_fence wsX6_fence) := goodIn_app (goodIn_of _ (by decide +kernel)) ggX6_walls_X6_fence
theorem dX6_walls_0 : decode cX6_walls 0 = .ok (.aload_n 0, 1) := by decide +kernel
theorem dX6_walls_1 : decode cX6_walls 1 = .ok (.aload_n 0, 1) := by decide +kernel
theorem dX6_walls_2 : decode cX6_walls 2 = .ok (.getfield 12, 3) := by decide +kernel
theorem dX6_walls_5 : decode cX6_walls 5 = .ok (.lload_n 1, 1) := by decide +kernel
theorem dX6_walls_6 : decode cX6_walls 6 = .ok (.lload_n 3, 1) := by decide +kernel
theorem dX6_walls_7 : decode cX6_walls 7 = .ok (.invokevirtual 61, 3) := by decide +kernel
theorem dX6_walls_10 : decode cX6_walls 10 = .ok (.ireturn, 1) := by decide +kernel
set_option maxRecDepth 20000 in
theorem ggX6_rails_X3_widened : GoodIn wsX6_rails wsX3_widened := goodIn_r _ [5, 6, 7, 8, 9, 10, 11, 12, 13, 14, 15, 16, 17, 18, 19, 20, 21, 22, 23, 24, 25, 26, 27, 28, 29, 30, 31, 32, 33, 34, 35, 36, 37, 38, 39, 40, 41, 42, 43, 44, 45] (by decide +kernel) (by decide +kernel)
set_option maxRecDepth 20000 in
theorem gX6_rails_X3_widened : GoodIn wsX6_rails (va_wsS RX6 36 yX3_widened wsX3_widened) := goodIn_app (goodIn_of _ (by decide +kernel)) ggX6_rails_X3_widened
set_option maxRecDepth 20000 in
theorem ggX6_rails_X6_fence : GoodIn wsX6_rails wsX6_fence := goodIn_r _ [50, 51, 52, 53, 54, 15, 55, 56, 17, 57, 58, 59, 49, 60, 61, 62, 63, 64, 65, 66, 67, 68, 69, 70, 71, 72, 19, 20, 21, 22, 23, 43, 44, 45, 27, 28, 29, 30, 31, 32, 33, 34, 35, 36, 37, 38, 39, 73, 74, 75, 76, 77, 78, 79, 80, 81, 82, 83, 84, 85, 86, 87, 88, 89, 90, 91, 92, 93, 94, 95, 96, 97, 98, 99, 100, 101, 102, 103, 104, 105, 106, 107, 108, 109, 110, 111, 112, 113, 114, 115, 116, 117, 118, 119, 120, 121] (by decide +kernel) (by decide +kernel)
set_option maxRecDepth 20000 in
theorem gX6_rails_X6_fence : GoodIn wsX6_rails (wsV RX6 61 RX6 yX6_fence wsX6_fence) := goodIn_app (goodIn_of _ (by decide +kernel)) ggX6_rails_X6_fence
theorem dX6_rails_0 : decode cX6_rails 0 = .ok (.aload_n 0, 1) := by decide +kernel
theorem dX6_rails_1 : decode cX6_rails 1 = .ok (.aload_n 0, 1) := by decide +kernel
theorem dX6_rails_2 : decode cX6_rails 2 = .ok (.getfield 18, 3) := by decide +kernel
theorem dX6_rails_5 : decode cX6_rails 5 = .ok (.iload_n 1, 1) := by decide +kernel
theorem dX6_rails_6 : decode cX6_rails 6 = .ok (.invokestatic 36, 3) := by decide +kernel
theorem dX6_rails_9 : decode cX6_rails 9 = .ok (.iload_n 2, 1) := by decide +kernel
theorem dX6_rails_10 : decode cX6_rails 10 = .ok (.invokestatic 36, 3) := by decide +kernel
theorem dX6_rails_13 : decode cX6_rails 13 = .ok (.invokevirtual 61, 3) := by decide +kernel
theorem dX6_rails_16 : decode cX6_rails 16 = .ok (.ireturn, 1) := by decide +kernel
set_option maxRecDepth 20000 in
theorem ggX6_steps_X3_widened : GoodIn wsX6_steps wsX3_widened := goodIn_r _ [6, 7, 8, 9, 10, 11, 12, 13, 14, 15, 16, 17, 18, 19, 20, 21, 22, 23, 24, 25, 26, 27, 28, 29, 30, 31, 32, 33, 34, 35, 36, 37, 38, 39, 40, 41, 42, 43, 44, 45, 46] (by decide +kernel) (by decide +kernel)
set_option maxRecDepth 20000 in
theorem gX6_steps_X3_widened : GoodIn wsX6_steps (va_wsS RX6 36 yX3_widened wsX3_widened) := goodIn_app (goodIn_of _ (by decide +kernel)) ggX6_steps_X3_widened
set_option maxRecDepth 20000 in
theorem ggX6_steps_X1_isNone : GoodIn wsX6_steps wsX1_isNone := goodIn_r _ [49, 50, 18] (by decide +kernel) (by decide +kernel)
set_option maxRecDepth 20000 in
theorem gX6_steps_X1_isNone : GoodIn wsX6_steps (va_wsS RX6 50 yX1_isNone wsX1_isNone) := goodIn_app (goodIn_of _ (by decide +kernel)) ggX6_steps_X1_isNone
set_option maxRecDepth 20000 in
theorem ggX6_steps_X6_refuse : GoodIn wsX6_steps wsX6_refuse := goodIn_r _ [55, 56, 68, 69, 70, 71, 72, 73, 74] (by decide +kernel) (by decide +kernel)
set_option maxRecDepth 20000 in
theorem gX6_steps_X6_refuse : GoodIn wsX6_steps (wsV RX6 46 RX6 yX6_refuse wsX6_refuse) := goodIn_app (goodIn_of _ (by decide +kernel)) ggX6_steps_X6_refuse
set_option maxRecDepth 20000 in
theorem ggX6_steps_X1_isInfinite : GoodIn wsX6_steps wsX1_isInfinite := goodIn_r _ [59, 50, 18] (by decide +kernel) (by decide +kernel)
set_option maxRecDepth 20000 in
theorem gX6_steps_X1_isInfinite : GoodIn wsX6_steps (va_wsS RX6 54 yX1_isInfinite wsX1_isInfinite) := goodIn_app (goodIn_of _ (by decide +kernel)) ggX6_steps_X1_isInfinite
set_option maxRecDepth 20000 in
theorem ggX6_steps_X1_isAboveZero : GoodIn wsX6_steps wsX1_isAboveZero := goodIn_r _ [62] (by decide +kernel) (by decide +kernel)
set_option maxRecDepth 20000 in
theorem gX6_steps_X1_isAboveZero : GoodIn wsX6_steps (va_wsS RX6 65 yX1_isAboveZero wsX1_isAboveZero) := goodIn_app (goodIn_of _ (by decide +kernel)) ggX6_steps_X1_isAboveZero
set_option maxRecDepth 20000 in
theorem ggX6_steps_X6_finish : GoodIn wsX6_steps wsX6_finish := goodIn_r _ [66, 67, 68, 69, 70, 71, 72, 73, 74] (by decide +kernel) (by decide +kernel)
set_option maxRecDepth 20000 in
theorem gX6_steps_X6_finish : GoodIn wsX6_steps (wsV RX6 72 RX6 yX6_finish wsX6_finish) := goodIn_app (goodIn_of _ (by decide +kernel)) ggX6_steps_X6_finish
theorem dX6_steps_0 : decode cX6_steps 0 = .ok (.iload_n 3, 1) := by decide +kernel
theorem dX6_steps_1 : decode cX6_steps 1 = .ok (.invokestatic 36, 3) := by decide +kernel
theorem dX6_steps_4 : decode cX6_steps 4 = .ok (.lstore 4, 2) := by decide +kernel
theorem dX6_steps_6 : decode cX6_steps 6 = .ok (.lload_n 1, 1) := by decide +kernel
theorem dX6_steps_7 : decode cX6_steps 7 = .ok (.invokestatic 50, 3) := by decide +kernel
theorem dX6_steps_10 : decode cX6_steps 10 = .ok (.ifCond .ne 11, 3) := by decide +kernel
theorem dX6_steps_13 : decode cX6_steps 13 = .ok (.lload 4, 2) := by decide +kernel
theorem dX6_steps_15 : decode cX6_steps 15 = .ok (.invokestatic 50, 3) := by decide +kernel
theorem dX6_steps_18 : decode cX6_steps 18 = .ok (.ifCond .eq 9, 3) := by decide +kernel
theorem dX6_steps_21 : decode cX6_steps 21 = .ok (.aload_n 0, 1) := by decide +kernel
theorem dX6_steps_22 : decode cX6_steps 22 = .ok (.iconst 2, 1) := by decide +kernel
theorem dX6_steps_23 : decode cX6_steps 23 = .ok (.invokevirtual 46, 3) := by decide +kernel
theorem dX6_steps_26 : decode cX6_steps 26 = .ok (.ireturn, 1) := by decide +kernel
theorem dX6_steps_27 : decode cX6_steps 27 = .ok (.lload_n 1, 1) := by decide +kernel
theorem dX6_steps_28 : decode cX6_steps 28 = .ok (.invokestatic 54, 3) := by decide +kernel
theorem dX6_steps_31 : decode cX6_steps 31 = .ok (.ifCond .ne 11, 3) := by decide +kernel
theorem dX6_steps_34 : decode cX6_steps 34 = .ok (.lload 4, 2) := by decide +kernel
theorem dX6_steps_36 : decode cX6_steps 36 = .ok (.invokestatic 54, 3) := by decide +kernel
theorem dX6_steps_39 : decode cX6_steps 39 = .ok (.ifCond .eq 9, 3) := by decide +kernel
theorem dX6_steps_42 : decode cX6_steps 42 = .ok (.aload_n 0, 1) := by decide +kernel
theorem dX6_steps_43 : decode cX6_steps 43 = .ok (.iconst 3, 1) := by decide +kernel
theorem dX6_steps_44 : decode cX6_steps 44 = .ok (.invokevirtual 46, 3) := by decide +kernel
theorem dX6_steps_47 : decode cX6_steps 47 = .ok (.ireturn, 1) := by decide +kernel
theorem dX6_steps_48 : decode cX6_steps 48 = .ok (.lload_n 1, 1) := by decide +kernel
theorem dX6_steps_49 : decode cX6_steps 49 = .ok (.invokestatic 65, 3) := by decide +kernel
theorem dX6_steps_52 : decode cX6_steps 52 = .ok (.ifCond .eq 11, 3) := by decide +kernel
theorem dX6_steps_55 : decode cX6_steps 55 = .ok (.lload 4, 2) := by decide +kernel
theorem dX6_steps_57 : decode cX6_steps 57 = .ok (.invokestatic 65, 3) := by decide +kernel
theorem dX6_steps_60 : decode cX6_steps 60 = .ok (.ifCond .ne 9, 3) := by decide +kernel
theorem dX6_steps_63 : decode cX6_steps 63 = .ok (.aload_n 0, 1) := by decide +kernel
theorem dX6_steps_64 : decode cX6_steps 64 = .ok (.iconst 4, 1) := by decide +kernel
theorem dX6_steps_65 : decode cX6_steps 65 = .ok (.invokevirtual 46, 3) := by decide +kernel
theorem dX6_steps_68 : decode cX6_steps 68 = .ok (.ireturn, 1) := by decide +kernel
theorem dX6_steps_69 : decode cX6_steps 69 = .ok (.aload_n 0, 1) := by decide +kernel
theorem dX6_steps_70 : decode cX6_steps 70 = .ok (.getfield 12, 3) := by decide +kernel
theorem dX6_steps_73 : decode cX6_steps 73 = .ok (.lload_n 1, 1) := by decide +kernel
theorem dX6_steps_74 : decode cX6_steps 74 = .ok (.putfield 68, 3) := by decide +kernel
theorem dX6_steps_77 : decode cX6_steps 77 = .ok (.aload_n 0, 1) := by decide +kernel
theorem dX6_steps_78 : decode cX6_steps 78 = .ok (.getfield 18, 3) := by decide +kernel
theorem dX6_steps_81 : decode cX6_steps 81 = .ok (.lload 4, 2) := by decide +kernel
theorem dX6_steps_83 : decode cX6_steps 83 = .ok (.putfield 68, 3) := by decide +kernel
theorem dX6_steps_86 : decode cX6_steps 86 = .ok (.aload_n 0, 1) := by decide +kernel
theorem dX6_steps_87 : decode cX6_steps 87 = .ok (.invokevirtual 72, 3) := by decide +kernel
theorem dX6_steps_90 : decode cX6_steps 90 = .ok (.ireturn, 1) := by decide +kernel
set_option maxRecDepth 20000 in
theorem ggX6_move_X3_widened : GoodIn wsX6_move wsX3_widened := goodIn_r _ [6, 7, 8, 9, 10, 11, 12, 13, 14, 15, 16, 17, 18, 19, 20, 21, 22, 23, 24, 25, 26, 27, 28, 29, 30, 31, 32, 33, 34, 35, 36, 37, 38, 39, 40, 41, 42, 43, 44, 45, 46] (by decide +kernel) (by decide +kernel)
set_option maxRecDepth 20000 in
theorem gX6_move_X3_widened : GoodIn wsX6_move (va_wsS RX6 36 yX3_widened wsX3_widened) := goodIn_app (goodIn_of _ (by decide +kernel)) ggX6_move_X3_widened
set_option maxRecDepth 20000 in
theorem ggX6_move_X6_isPoint : GoodIn wsX6_move wsX6_isPoint := goodIn_r _ [50] (by decide +kernel) (by decide +kernel)
set_option maxRecDepth 20000 in
theorem gX6_move_X6_isPoint : GoodIn wsX6_move (va_wsS RX6 42 yX6_isPoint wsX6_isPoint) := goodIn_app (goodIn_of _ (by decide +kernel)) ggX6_move_X6_isPoint
set_option maxRecDepth 20000 in
theorem ggX6_move_X6_refuse : GoodIn wsX6_move wsX6_refuse := goodIn_r _ [54, 55, 124, 125, 126, 127, 128, 129, 130] (by decide +kernel) (by decide +kernel)
set_option maxRecDepth 20000 in
theorem gX6_move_X6_refuse : GoodIn wsX6_move (wsV RX6 46 RX6 yX6_refuse wsX6_refuse) := goodIn_app (goodIn_of _ (by decide +kernel)) ggX6_move_X6_refuse
set_option maxRecDepth 20000 in
theorem ggX6_move_X1_isNone : GoodIn wsX6_move wsX1_isNone := goodIn_r _ [58, 59, 18] (by decide +kernel) (by decide +kernel)
set_option maxRecDepth 20000 in
theorem gX6_move_X1_isNone : GoodIn wsX6_move (va_wsS RX6 50 yX1_isNone wsX1_isNone) := goodIn_app (goodIn_of _ (by decide +kernel)) ggX6_move_X1_isNone
set_option maxRecDepth 20000 in
theorem ggX6_move_X0_sum : GoodIn wsX6_move wsX0_sum := goodIn_r _ [64, 65, 66, 67, 68, 16, 69, 70, 71, 72, 59, 73, 74, 75, 76, 77, 18, 20, 21, 22, 23, 24, 44, 45, 46, 28, 29, 30, 31, 32, 33, 34, 35, 36, 37, 38, 39, 40, 78, 79, 80, 81, 82, 15, 17, 19, 25, 26, 27, 41, 42, 43, 131, 132, 133, 134, 135] (by decide +kernel) (by decide +kernel)
set_option maxRecDepth 20000 in
theorem gX6_move_X0_sum : GoodIn wsX6_move (wsV RX6 79 RX0 yX0_sum wsX0_sum) := goodIn_app (goodIn_of _ (by decide +kernel)) ggX6_move_X0_sum
set_option maxRecDepth 20000 in
theorem ggX6_move_X6_putWalled : GoodIn wsX6_move wsX6_putWalled := goodIn_r _ [86, 1, 2, 87, 88, 89, 90, 63, 91, 92, 93, 94, 95, 16, 96, 97, 98, 99, 59, 100, 101, 102, 103, 76, 77, 18, 51, 52, 53, 49, 54, 55, 104, 105, 106, 107, 108, 109, 110, 111, 112, 113, 114, 115, 116, 117, 118, 119, 120, 121, 122, 123, 124, 125, 126, 127, 128, 129, 130, 131, 132, 133, 134, 135, 136, 137, 138, 139, 140] (by decide +kernel) (by decide +kernel)
set_option maxRecDepth 20000 in
theorem gX6_move_X6_putWalled : GoodIn wsX6_move (wsV RX6 57 RX6 yX6_putWalled wsX6_putWalled) := goodIn_app (goodIn_of _ (by decide +kernel)) ggX6_move_X6_putWalled
theorem dX6_move_0 : decode cX6_move 0 = .ok (.iload 4, 2) := by decide +kernel
theorem dX6_move_2 : decode cX6_move 2 = .ok (.invokestatic 36, 3) := by decide +kernel
theorem dX6_move_5 : decode cX6_move 5 = .ok (.lstore 5, 2) := by decide +kernel
theorem dX6_move_7 : decode cX6_move 7 = .ok (.iload_n 1, 1) := by decide +kernel
theorem dX6_move_8 : decode cX6_move 8 = .ok (.invokestatic 42, 3) := by decide +kernel
theorem dX6_move_11 : decode cX6_move 11 = .ok (.ifCond .ne 9, 3) := by decide +kernel
theorem dX6_move_14 : decode cX6_move 14 = .ok (.aload_n 0, 1) := by decide +kernel
theorem dX6_move_15 : decode cX6_move 15 = .ok (.iconst 1, 1) := by decide +kernel
theorem dX6_move_16 : decode cX6_move 16 = .ok (.invokevirtual 46, 3) := by decide +kernel
theorem dX6_move_19 : decode cX6_move 19 = .ok (.ireturn, 1) := by decide +kernel
theorem dX6_move_20 : decode cX6_move 20 = .ok (.lload_n 2, 1) := by decide +kernel
theorem dX6_move_21 : decode cX6_move 21 = .ok (.invokestatic 50, 3) := by decide +kernel
theorem dX6_move_24 : decode cX6_move 24 = .ok (.ifCond .ne 11, 3) := by decide +kernel
theorem dX6_move_27 : decode cX6_move 27 = .ok (.lload 5, 2) := by decide +kernel
theorem dX6_move_29 : decode cX6_move 29 = .ok (.invokestatic 50, 3) := by decide +kernel
theorem dX6_move_32 : decode cX6_move 32 = .ok (.ifCond .eq 9, 3) := by decide +kernel
theorem dX6_move_35 : decode cX6_move 35 = .ok (.aload_n 0, 1) := by decide +kernel
theorem dX6_move_36 : decode cX6_move 36 = .ok (.iconst 2, 1) := by decide +kernel
theorem dX6_move_37 : decode cX6_move 37 = .ok (.invokevirtual 46, 3) := by decide +kernel
theorem dX6_move_40 : decode cX6_move 40 = .ok (.ireturn, 1) := by decide +kernel
theorem dX6_move_41 : decode cX6_move 41 = .ok (.aload_n 0, 1) := by decide +kernel
theorem dX6_move_42 : decode cX6_move 42 = .ok (.iload_n 1, 1) := by decide +kernel
theorem dX6_move_43 : decode cX6_move 43 = .ok (.aload_n 0, 1) := by decide +kernel
theorem dX6_move_44 : decode cX6_move 44 = .ok (.getfield 12, 3) := by decide +kernel
theorem dX6_move_47 : decode cX6_move 47 = .ok (.aload_n 0, 1) := by decide +kernel
theorem dX6_move_48 : decode cX6_move 48 = .ok (.getfield 12, 3) := by decide +kernel
theorem dX6_move_51 : decode cX6_move 51 = .ok (.getfield 76, 3) := by decide +kernel
theorem dX6_move_54 : decode cX6_move 54 = .ok (.iload_n 1, 1) := by decide +kernel
theorem dX6_move_55 : decode cX6_move 55 = .ok (.laload, 1) := by decide +kernel
theorem dX6_move_56 : decode cX6_move 56 = .ok (.lload_n 2, 1) := by decide +kernel
theorem dX6_move_57 : decode cX6_move 57 = .ok (.invokevirtual 79, 3) := by decide +kernel
theorem dX6_move_60 : decode cX6_move 60 = .ok (.aload_n 0, 1) := by decide +kernel
theorem dX6_move_61 : decode cX6_move 61 = .ok (.getfield 18, 3) := by decide +kernel
theorem dX6_move_64 : decode cX6_move 64 = .ok (.aload_n 0, 1) := by decide +kernel
theorem dX6_move_65 : decode cX6_move 65 = .ok (.getfield 18, 3) := by decide +kernel
theorem dX6_move_68 : decode cX6_move 68 = .ok (.getfield 76, 3) := by decide +kernel
theorem dX6_move_71 : decode cX6_move 71 = .ok (.iload_n 1, 1) := by decide +kernel
theorem dX6_move_72 : decode cX6_move 72 = .ok (.laload, 1) := by decide +kernel
theorem dX6_move_73 : decode cX6_move 73 = .ok (.lload 5, 2) := by decide +kernel
theorem dX6_move_75 : decode cX6_move 75 = .ok (.invokevirtual 79, 3) := by decide +kernel
theorem dX6_move_78 : decode cX6_move 78 = .ok (.invokevirtual 57, 3) := by decide +kernel
theorem dX6_move_81 : decode cX6_move 81 = .ok (.ireturn, 1) := by decide +kernel
set_option maxRecDepth 20000 in
theorem ggX6_snap_X6_isPoint : GoodIn wsX6_snap wsX6_isPoint := goodIn_r _ [6] (by decide +kernel) (by decide +kernel)
set_option maxRecDepth 20000 in
theorem gX6_snap_X6_isPoint : GoodIn wsX6_snap (va_wsS RX6 42 yX6_isPoint wsX6_isPoint) := goodIn_app (goodIn_of _ (by decide +kernel)) ggX6_snap_X6_isPoint
set_option maxRecDepth 20000 in
theorem ggX6_snap_X5_isWay : GoodIn wsX6_snap wsX5_isWay := goodIn_r _ [10] (by decide +kernel) (by decide +kernel)
set_option maxRecDepth 20000 in
theorem gX6_snap_X5_isWay : GoodIn wsX6_snap (va_wsS RX6 83 yX5_isWay wsX5_isWay) := goodIn_app (goodIn_of _ (by decide +kernel)) ggX6_snap_X5_isWay
set_option maxRecDepth 20000 in
theorem ggX6_snap_X6_refuse : GoodIn wsX6_snap wsX6_refuse := goodIn_r _ [14, 15, 127, 128, 129, 130, 131, 132, 133] (by decide +kernel) (by decide +kernel)
set_option maxRecDepth 20000 in
theorem gX6_snap_X6_refuse : GoodIn wsX6_snap (wsV RX6 46 RX6 yX6_refuse wsX6_refuse) := goodIn_app (goodIn_of _ (by decide +kernel)) ggX6_snap_X6_refuse
set_option maxRecDepth 20000 in
theorem ggX6_snap_X0_snapped : GoodIn wsX6_snap wsX0_snapped := goodIn_r _ [20, 21, 22, 23, 24, 25, 19, 26, 27, 28, 29, 30, 31, 32, 33, 34, 35, 36, 37, 38, 39, 40, 41, 42, 43, 44, 45, 46, 47, 48, 49, 50, 51, 52, 53, 54, 55, 56, 57, 58, 59, 60, 61, 62, 63, 64, 65, 66, 67, 68, 69, 70, 71, 72, 73, 74, 9, 75, 76, 77, 78, 79, 80, 81, 82, 83, 84, 85, 134, 135, 136, 137, 138] (by decide +kernel) (by decide +kernel)
set_option maxRecDepth 20000 in
theorem gX6_snap_X0_snapped : GoodIn wsX6_snap (wsV RX6 88 RX0 yX0_snapped wsX0_snapped) := goodIn_app (goodIn_of _ (by decide +kernel)) ggX6_snap_X0_snapped
set_option maxRecDepth 20000 in
theorem ggX6_snap_X6_putWalled : GoodIn wsX6_snap wsX6_putWalled := goodIn_r _ [89, 1, 2, 90, 91, 92, 93, 19, 94, 95, 96, 97, 98, 29, 99, 100, 101, 102, 31, 103, 104, 105, 106, 35, 36, 37, 11, 12, 13, 5, 14, 15, 107, 108, 109, 110, 111, 112, 113, 114, 115, 116, 117, 118, 119, 120, 121, 122, 123, 124, 125, 126, 127, 128, 129, 130, 131, 132, 133, 134, 135, 136, 137, 138, 139, 140, 141, 142, 143] (by decide +kernel) (by decide +kernel)
set_option maxRecDepth 20000 in
theorem gX6_snap_X6_putWalled : GoodIn wsX6_snap (wsV RX6 57 RX6 yX6_putWalled wsX6_putWalled) := goodIn_app (goodIn_of _ (by decide +kernel)) ggX6_snap_X6_putWalled
theorem dX6_snap_0 : decode cX6_snap 0 = .ok (.iload_n 1, 1) := by decide +kernel
theorem dX6_snap_1 : decode cX6_snap 1 = .ok (.invokestatic 42, 3) := by decide +kernel
theorem dX6_snap_4 : decode cX6_snap 4 = .ok (.ifCond .eq 10, 3) := by decide +kernel
theorem dX6_snap_7 : decode cX6_snap 7 = .ok (.iload_n 2, 1) := by decide +kernel
theorem dX6_snap_8 : decode cX6_snap 8 = .ok (.invokestatic 83, 3) := by decide +kernel
theorem dX6_snap_11 : decode cX6_snap 11 = .ok (.ifCond .ne 9, 3) := by decide +kernel
theorem dX6_snap_14 : decode cX6_snap 14 = .ok (.aload_n 0, 1) := by decide +kernel
theorem dX6_snap_15 : decode cX6_snap 15 = .ok (.iconst 1, 1) := by decide +kernel
theorem dX6_snap_16 : decode cX6_snap 16 = .ok (.invokevirtual 46, 3) := by decide +kernel
theorem dX6_snap_19 : decode cX6_snap 19 = .ok (.ireturn, 1) := by decide +kernel
theorem dX6_snap_20 : decode cX6_snap 20 = .ok (.aload_n 0, 1) := by decide +kernel
theorem dX6_snap_21 : decode cX6_snap 21 = .ok (.iload_n 1, 1) := by decide +kernel
theorem dX6_snap_22 : decode cX6_snap 22 = .ok (.aload_n 0, 1) := by decide +kernel
theorem dX6_snap_23 : decode cX6_snap 23 = .ok (.getfield 12, 3) := by decide +kernel
theorem dX6_snap_26 : decode cX6_snap 26 = .ok (.aload_n 0, 1) := by decide +kernel
theorem dX6_snap_27 : decode cX6_snap 27 = .ok (.getfield 12, 3) := by decide +kernel
theorem dX6_snap_30 : decode cX6_snap 30 = .ok (.getfield 76, 3) := by decide +kernel
theorem dX6_snap_33 : decode cX6_snap 33 = .ok (.iload_n 1, 1) := by decide +kernel
theorem dX6_snap_34 : decode cX6_snap 34 = .ok (.laload, 1) := by decide +kernel
theorem dX6_snap_35 : decode cX6_snap 35 = .ok (.iload_n 2, 1) := by decide +kernel
theorem dX6_snap_36 : decode cX6_snap 36 = .ok (.invokevirtual 88, 3) := by decide +kernel
theorem dX6_snap_39 : decode cX6_snap 39 = .ok (.aload_n 0, 1) := by decide +kernel
theorem dX6_snap_40 : decode cX6_snap 40 = .ok (.getfield 18, 3) := by decide +kernel
theorem dX6_snap_43 : decode cX6_snap 43 = .ok (.aload_n 0, 1) := by decide +kernel
theorem dX6_snap_44 : decode cX6_snap 44 = .ok (.getfield 18, 3) := by decide +kernel
theorem dX6_snap_47 : decode cX6_snap 47 = .ok (.getfield 76, 3) := by decide +kernel
theorem dX6_snap_50 : decode cX6_snap 50 = .ok (.iload_n 1, 1) := by decide +kernel
theorem dX6_snap_51 : decode cX6_snap 51 = .ok (.laload, 1) := by decide +kernel
theorem dX6_snap_52 : decode cX6_snap 52 = .ok (.iload_n 2, 1) := by decide +kernel
theorem dX6_snap_53 : decode cX6_snap 53 = .ok (.invokevirtual 88, 3) := by decide +kernel
theorem dX6_snap_56 : decode cX6_snap 56 = .ok (.invokevirtual 57, 3) := by decide +kernel
theorem dX6_snap_59 : decode cX6_snap 59 = .ok (.ireturn, 1) := by decide +kernel
set_option maxRecDepth 20000 in
theorem ggX6_lean_X6_isPoint : GoodIn wsX6_lean wsX6_isPoint := goodIn_r _ [6] (by decide +kernel) (by decide +kernel)
set_option maxRecDepth 20000 in
theorem gX6_lean_X6_isPoint : GoodIn wsX6_lean (va_wsS RX6 42 yX6_isPoint wsX6_isPoint) := goodIn_app (goodIn_of _ (by decide +kernel)) ggX6_lean_X6_isPoint
set_option maxRecDepth 20000 in
theorem ggX6_lean_X6_refuse : GoodIn wsX6_lean wsX6_refuse := goodIn_r _ [10, 11, 63, 64, 65, 66, 67, 68, 69] (by decide +kernel) (by decide +kernel)
set_option maxRecDepth 20000 in
theorem gX6_lean_X6_refuse : GoodIn wsX6_lean (wsV RX6 46 RX6 yX6_refuse wsX6_refuse) := goodIn_app (goodIn_of _ (by decide +kernel)) ggX6_lean_X6_refuse
set_option maxRecDepth 20000 in
theorem ggX6_lean_X1_withSignOf : GoodIn wsX6_lean wsX1_withSignOf := goodIn_r _ [15, 16, 17] (by decide +kernel) (by decide +kernel)
set_option maxRecDepth 20000 in
theorem gX6_lean_X1_withSignOf : GoodIn wsX6_lean (va_wsS RX6 92 yX1_withSignOf wsX1_withSignOf) := goodIn_app (goodIn_of _ (by decide +kernel)) ggX6_lean_X1_withSignOf
set_option maxRecDepth 20000 in
theorem ggX6_lean_X6_putWalled : GoodIn wsX6_lean wsX6_putWalled := goodIn_r _ [21, 1, 2, 22, 23, 24, 25, 26, 27, 28, 29, 30, 31, 14, 32, 33, 34, 35, 16, 36, 37, 38, 39, 40, 41, 42, 7, 8, 9, 5, 10, 11, 43, 44, 45, 46, 47, 48, 49, 50, 51, 52, 53, 54, 55, 56, 57, 58, 59, 60, 61, 62, 63, 64, 65, 66, 67, 68, 69, 70, 71, 72, 73, 74, 75, 76, 77, 78, 79] (by decide +kernel) (by decide +kernel)
set_option maxRecDepth 20000 in
theorem gX6_lean_X6_putWalled : GoodIn wsX6_lean (wsV RX6 57 RX6 yX6_putWalled wsX6_putWalled) := goodIn_app (goodIn_of _ (by decide +kernel)) ggX6_lean_X6_putWalled
theorem dX6_lean_0 : decode cX6_lean 0 = .ok (.iload_n 1, 1) := by decide +kernel
theorem dX6_lean_1 : decode cX6_lean 1 = .ok (.invokestatic 42, 3) := by decide +kernel
theorem dX6_lean_4 : decode cX6_lean 4 = .ok (.ifCond .eq 10, 3) := by decide +kernel
theorem dX6_lean_7 : decode cX6_lean 7 = .ok (.iload_n 2, 1) := by decide +kernel
theorem dX6_lean_8 : decode cX6_lean 8 = .ok (.invokestatic 42, 3) := by decide +kernel
theorem dX6_lean_11 : decode cX6_lean 11 = .ok (.ifCond .ne 9, 3) := by decide +kernel
theorem dX6_lean_14 : decode cX6_lean 14 = .ok (.aload_n 0, 1) := by decide +kernel
theorem dX6_lean_15 : decode cX6_lean 15 = .ok (.iconst 1, 1) := by decide +kernel
theorem dX6_lean_16 : decode cX6_lean 16 = .ok (.invokevirtual 46, 3) := by decide +kernel
theorem dX6_lean_19 : decode cX6_lean 19 = .ok (.ireturn, 1) := by decide +kernel
theorem dX6_lean_20 : decode cX6_lean 20 = .ok (.aload_n 0, 1) := by decide +kernel
theorem dX6_lean_21 : decode cX6_lean 21 = .ok (.iload_n 1, 1) := by decide +kernel
theorem dX6_lean_22 : decode cX6_lean 22 = .ok (.aload_n 0, 1) := by decide +kernel
theorem dX6_lean_23 : decode cX6_lean 23 = .ok (.getfield 12, 3) := by decide +kernel
theorem dX6_lean_26 : decode cX6_lean 26 = .ok (.getfield 76, 3) := by decide +kernel
theorem dX6_lean_29 : decode cX6_lean 29 = .ok (.iload_n 1, 1) := by decide +kernel
theorem dX6_lean_30 : decode cX6_lean 30 = .ok (.laload, 1) := by decide +kernel
theorem dX6_lean_31 : decode cX6_lean 31 = .ok (.aload_n 0, 1) := by decide +kernel
theorem dX6_lean_32 : decode cX6_lean 32 = .ok (.getfield 12, 3) := by decide +kernel
theorem dX6_lean_35 : decode cX6_lean 35 = .ok (.getfield 76, 3) := by decide +kernel
theorem dX6_lean_38 : decode cX6_lean 38 = .ok (.iload_n 2, 1) := by decide +kernel
theorem dX6_lean_39 : decode cX6_lean 39 = .ok (.laload, 1) := by decide +kernel
theorem dX6_lean_40 : decode cX6_lean 40 = .ok (.invokestatic 92, 3) := by decide +kernel
theorem dX6_lean_43 : decode cX6_lean 43 = .ok (.aload_n 0, 1) := by decide +kernel
theorem dX6_lean_44 : decode cX6_lean 44 = .ok (.getfield 18, 3) := by decide +kernel
theorem dX6_lean_47 : decode cX6_lean 47 = .ok (.getfield 76, 3) := by decide +kernel
theorem dX6_lean_50 : decode cX6_lean 50 = .ok (.iload_n 1, 1) := by decide +kernel
theorem dX6_lean_51 : decode cX6_lean 51 = .ok (.laload, 1) := by decide +kernel
theorem dX6_lean_52 : decode cX6_lean 52 = .ok (.aload_n 0, 1) := by decide +kernel
theorem dX6_lean_53 : decode cX6_lean 53 = .ok (.getfield 18, 3) := by decide +kernel
theorem dX6_lean_56 : decode cX6_lean 56 = .ok (.getfield 76, 3) := by decide +kernel
theorem dX6_lean_59 : decode cX6_lean 59 = .ok (.iload_n 2, 1) := by decide +kernel
theorem dX6_lean_60 : decode cX6_lean 60 = .ok (.laload, 1) := by decide +kernel
theorem dX6_lean_61 : decode cX6_lean 61 = .ok (.invokestatic 92, 3) := by decide +kernel
theorem dX6_lean_64 : decode cX6_lean 64 = .ok (.invokevirtual 57, 3) := by decide +kernel
theorem dX6_lean_67 : decode cX6_lean 67 = .ok (.ireturn, 1) := by decide +kernel
set_option maxRecDepth 20000 in
theorem ggX6_pull_X6_isPoint : GoodIn wsX6_pull wsX6_isPoint := goodIn_r _ [6] (by decide +kernel) (by decide +kernel)
set_option maxRecDepth 20000 in
theorem gX6_pull_X6_isPoint : GoodIn wsX6_pull (va_wsS RX6 42 yX6_isPoint wsX6_isPoint) := goodIn_app (goodIn_of _ (by decide +kernel)) ggX6_pull_X6_isPoint
set_option maxRecDepth 20000 in
theorem ggX6_pull_X6_isEnd : GoodIn wsX6_pull wsX6_isEnd := goodIn_r _ [9] (by decide +kernel) (by decide +kernel)
set_option maxRecDepth 20000 in
theorem gX6_pull_X6_isEnd : GoodIn wsX6_pull (va_wsS RX6 95 yX6_isEnd wsX6_isEnd) := goodIn_app (goodIn_of _ (by decide +kernel)) ggX6_pull_X6_isEnd
set_option maxRecDepth 20000 in
theorem ggX6_pull_X6_refuse : GoodIn wsX6_pull wsX6_refuse := goodIn_r _ [13, 14, 49, 50, 51, 52, 53, 54, 55] (by decide +kernel) (by decide +kernel)
set_option maxRecDepth 20000 in
theorem gX6_pull_X6_refuse : GoodIn wsX6_pull (wsV RX6 46 RX6 yX6_refuse wsX6_refuse) := goodIn_app (goodIn_of _ (by decide +kernel)) ggX6_pull_X6_refuse
set_option maxRecDepth 20000 in
theorem ggX6_pull_X1_outer : GoodIn wsX6_pull wsX1_outer := goodIn_r _ [18, 19, 20, 17, 21, 22, 23, 24, 25, 26, 27, 28] (by decide +kernel) (by decide +kernel)
set_option maxRecDepth 20000 in
theorem gX6_pull_X1_outer : GoodIn wsX6_pull (va_wsS RX6 98 yX1_outer wsX1_outer) := goodIn_app (goodIn_of _ (by decide +kernel)) ggX6_pull_X1_outer
set_option maxRecDepth 20000 in
theorem ggX6_pull_X6_put : GoodIn wsX6_pull wsX6_put := goodIn_r _ [32, 33, 1, 2, 34, 35, 36, 37, 38, 39, 40, 41, 42, 43, 44, 45, 46, 5, 47, 48, 49, 50, 51, 52, 53, 54, 55, 56, 57, 58, 59, 60, 61, 62, 63, 64, 65] (by decide +kernel) (by decide +kernel)
set_option maxRecDepth 20000 in
theorem gX6_pull_X6_put : GoodIn wsX6_pull (wsV RX6 102 RX6 yX6_put wsX6_put) := goodIn_app (goodIn_of _ (by decide +kernel)) ggX6_pull_X6_put
theorem dX6_pull_0 : decode cX6_pull 0 = .ok (.iload_n 1, 1) := by decide +kernel
theorem dX6_pull_1 : decode cX6_pull 1 = .ok (.invokestatic 42, 3) := by decide +kernel
theorem dX6_pull_4 : decode cX6_pull 4 = .ok (.ifCond .eq 17, 3) := by decide +kernel
theorem dX6_pull_7 : decode cX6_pull 7 = .ok (.iload_n 2, 1) := by decide +kernel
theorem dX6_pull_8 : decode cX6_pull 8 = .ok (.invokestatic 42, 3) := by decide +kernel
theorem dX6_pull_11 : decode cX6_pull 11 = .ok (.ifCond .eq 10, 3) := by decide +kernel
theorem dX6_pull_14 : decode cX6_pull 14 = .ok (.iload_n 3, 1) := by decide +kernel
theorem dX6_pull_15 : decode cX6_pull 15 = .ok (.invokestatic 95, 3) := by decide +kernel
theorem dX6_pull_18 : decode cX6_pull 18 = .ok (.ifCond .ne 9, 3) := by decide +kernel
theorem dX6_pull_21 : decode cX6_pull 21 = .ok (.aload_n 0, 1) := by decide +kernel
theorem dX6_pull_22 : decode cX6_pull 22 = .ok (.iconst 1, 1) := by decide +kernel
theorem dX6_pull_23 : decode cX6_pull 23 = .ok (.invokevirtual 46, 3) := by decide +kernel
theorem dX6_pull_26 : decode cX6_pull 26 = .ok (.ireturn, 1) := by decide +kernel
theorem dX6_pull_27 : decode cX6_pull 27 = .ok (.aload_n 0, 1) := by decide +kernel
theorem dX6_pull_28 : decode cX6_pull 28 = .ok (.iload_n 1, 1) := by decide +kernel
theorem dX6_pull_29 : decode cX6_pull 29 = .ok (.aload_n 0, 1) := by decide +kernel
theorem dX6_pull_30 : decode cX6_pull 30 = .ok (.getfield 12, 3) := by decide +kernel
theorem dX6_pull_33 : decode cX6_pull 33 = .ok (.getfield 76, 3) := by decide +kernel
theorem dX6_pull_36 : decode cX6_pull 36 = .ok (.iload_n 1, 1) := by decide +kernel
theorem dX6_pull_37 : decode cX6_pull 37 = .ok (.laload, 1) := by decide +kernel
theorem dX6_pull_38 : decode cX6_pull 38 = .ok (.aload_n 0, 1) := by decide +kernel
theorem dX6_pull_39 : decode cX6_pull 39 = .ok (.getfield 12, 3) := by decide +kernel
theorem dX6_pull_42 : decode cX6_pull 42 = .ok (.getfield 76, 3) := by decide +kernel
theorem dX6_pull_45 : decode cX6_pull 45 = .ok (.iload_n 2, 1) := by decide +kernel
theorem dX6_pull_46 : decode cX6_pull 46 = .ok (.laload, 1) := by decide +kernel
theorem dX6_pull_47 : decode cX6_pull 47 = .ok (.iload_n 3, 1) := by decide +kernel
theorem dX6_pull_48 : decode cX6_pull 48 = .ok (.invokestatic 98, 3) := by decide +kernel
theorem dX6_pull_51 : decode cX6_pull 51 = .ok (.aload_n 0, 1) := by decide +kernel
theorem dX6_pull_52 : decode cX6_pull 52 = .ok (.getfield 18, 3) := by decide +kernel
theorem dX6_pull_55 : decode cX6_pull 55 = .ok (.getfield 76, 3) := by decide +kernel
theorem dX6_pull_58 : decode cX6_pull 58 = .ok (.iload_n 1, 1) := by decide +kernel
theorem dX6_pull_59 : decode cX6_pull 59 = .ok (.laload, 1) := by decide +kernel
theorem dX6_pull_60 : decode cX6_pull 60 = .ok (.aload_n 0, 1) := by decide +kernel
theorem dX6_pull_61 : decode cX6_pull 61 = .ok (.getfield 18, 3) := by decide +kernel
theorem dX6_pull_64 : decode cX6_pull 64 = .ok (.getfield 76, 3) := by decide +kernel
theorem dX6_pull_67 : decode cX6_pull 67 = .ok (.iload_n 2, 1) := by decide +kernel
theorem dX6_pull_68 : decode cX6_pull 68 = .ok (.laload, 1) := by decide +kernel
theorem dX6_pull_69 : decode cX6_pull 69 = .ok (.iload_n 3, 1) := by decide +kernel
theorem dX6_pull_70 : decode cX6_pull 70 = .ok (.invokestatic 98, 3) := by decide +kernel
theorem dX6_pull_73 : decode cX6_pull 73 = .ok (.invokevirtual 102, 3) := by decide +kernel
theorem dX6_pull_76 : decode cX6_pull 76 = .ok (.ireturn, 1) := by decide +kernel
set_option maxRecDepth 20000 in
theorem ggX6_swing_X6_isPoint : GoodIn wsX6_swing wsX6_isPoint := goodIn_r _ [6] (by decide +kernel) (by decide +kernel)
set_option maxRecDepth 20000 in
theorem gX6_swing_X6_isPoint : GoodIn wsX6_swing (va_wsS RX6 42 yX6_isPoint wsX6_isPoint) := goodIn_app (goodIn_of _ (by decide +kernel)) ggX6_swing_X6_isPoint
set_option maxRecDepth 20000 in
theorem ggX6_swing_X6_refuse : GoodIn wsX6_swing wsX6_refuse := goodIn_r _ [10, 11, 115, 116, 117, 118, 119, 120, 121] (by decide +kernel) (by decide +kernel)
set_option maxRecDepth 20000 in
theorem gX6_swing_X6_refuse : GoodIn wsX6_swing (wsV RX6 46 RX6 yX6_refuse wsX6_refuse) := goodIn_app (goodIn_of _ (by decide +kernel)) ggX6_swing_X6_refuse
set_option maxRecDepth 20000 in
theorem ggX6_swing_X1_isNone : GoodIn wsX6_swing wsX1_isNone := goodIn_r _ [15, 16, 17] (by decide +kernel) (by decide +kernel)
set_option maxRecDepth 20000 in
theorem gX6_swing_X1_isNone : GoodIn wsX6_swing (va_wsS RX6 50 yX1_isNone wsX1_isNone) := goodIn_app (goodIn_of _ (by decide +kernel)) ggX6_swing_X1_isNone
set_option maxRecDepth 20000 in
theorem ggX6_swing_X1_isInfinite : GoodIn wsX6_swing wsX1_isInfinite := goodIn_r _ [20, 16, 17] (by decide +kernel) (by decide +kernel)
set_option maxRecDepth 20000 in
theorem gX6_swing_X1_isInfinite : GoodIn wsX6_swing (va_wsS RX6 54 yX1_isInfinite wsX1_isInfinite) := goodIn_app (goodIn_of _ (by decide +kernel)) ggX6_swing_X1_isInfinite
set_option maxRecDepth 20000 in
theorem ggX6_swing_X0_sum : GoodIn wsX6_swing wsX0_sum := goodIn_r _ [25, 26, 27, 28, 29, 14, 30, 31, 32, 33, 16, 34, 35, 36, 19, 20, 17, 37, 38, 39, 40, 41, 42, 43, 44, 45, 46, 47, 48, 49, 50, 51, 52, 53, 54, 55, 56, 57, 58, 59, 60, 61, 62, 63, 64, 65, 66, 67, 68, 69, 70, 71, 122, 123, 124, 125, 126] (by decide +kernel) (by decide +kernel)
set_option maxRecDepth 20000 in
theorem gX6_swing_X0_sum : GoodIn wsX6_swing (wsV RX6 79 RX0 yX0_sum wsX0_sum) := goodIn_app (goodIn_of _ (by decide +kernel)) ggX6_swing_X0_sum
set_option maxRecDepth 20000 in
theorem ggX6_swing_X1_opposite : GoodIn wsX6_swing wsX1_opposite := goodIn_r _ [74, 61] (by decide +kernel) (by decide +kernel)
set_option maxRecDepth 20000 in
theorem gX6_swing_X1_opposite : GoodIn wsX6_swing (va_wsS RX6 105 yX1_opposite wsX1_opposite) := goodIn_app (goodIn_of _ (by decide +kernel)) ggX6_swing_X1_opposite
set_option maxRecDepth 20000 in
theorem ggX6_swing_X6_putWalled : GoodIn wsX6_swing wsX6_putWalled := goodIn_r _ [78, 1, 2, 79, 80, 81, 82, 24, 83, 84, 85, 86, 87, 14, 88, 89, 90, 91, 16, 92, 93, 94, 18, 19, 20, 17, 7, 8, 9, 5, 10, 11, 95, 96, 97, 98, 99, 100, 101, 102, 103, 104, 105, 106, 107, 108, 109, 110, 111, 112, 113, 114, 115, 116, 117, 118, 119, 120, 121, 122, 123, 124, 125, 126, 127, 128, 129, 130, 131] (by decide +kernel) (by decide +kernel)
set_option maxRecDepth 20000 in
theorem gX6_swing_X6_putWalled : GoodIn wsX6_swing (wsV RX6 57 RX6 yX6_putWalled wsX6_putWalled) := goodIn_app (goodIn_of _ (by decide +kernel)) ggX6_swing_X6_putWalled
theorem dX6_swing_0 : decode cX6_swing 0 = .ok (.iload_n 1, 1) := by decide +kernel
theorem dX6_swing_1 : decode cX6_swing 1 = .ok (.invokestatic 42, 3) := by decide +kernel
theorem dX6_swing_4 : decode cX6_swing 4 = .ok (.ifCond .ne 9, 3) := by decide +kernel
theorem dX6_swing_7 : decode cX6_swing 7 = .ok (.aload_n 0, 1) := by decide +kernel
theorem dX6_swing_8 : decode cX6_swing 8 = .ok (.iconst 1, 1) := by decide +kernel
theorem dX6_swing_9 : decode cX6_swing 9 = .ok (.invokevirtual 46, 3) := by decide +kernel
theorem dX6_swing_12 : decode cX6_swing 12 = .ok (.ireturn, 1) := by decide +kernel
