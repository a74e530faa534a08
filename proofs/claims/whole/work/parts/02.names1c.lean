theorem wsL_law_in : ∀ w ∈ wsL_law, w ∈ lw_tbl := by
  intro w h
  unfold wsL_law at h
  replace h := (List.mem_append.mp h).resolve_right (fun q => absurd q List.not_mem_nil)
  refine (List.mem_append.mp h).elim (fun h => ?_) (fun h => wsX40_inT w h)
  refine (List.mem_append.mp h).elim (fun h => ?_) (fun h => wsX00_inT w h)
  refine (List.mem_append.mp h).elim (fun h => ?_) (fun h => wsX70_inT w h)
  refine (List.mem_append.mp h).elim (fun h => ?_) (fun h => wsX60_inT w h)
  refine (List.mem_append.mp h).elim (fun h => wsL_law_r1_in w h) (fun h => ?_)
  refine (List.mem_append.mp h).elim (fun h => wsL_law_r2_in w h) (fun h => ?_)
  refine (List.mem_append.mp h).elim (fun h => wsL_law_r3_in w h) (fun h => ?_)
  refine (List.mem_append.mp h).elim (fun h => wsL_law_r4_in w h) (fun h => ?_)
  refine (List.mem_append.mp h).elim (fun h => wsL_law_r5_in w h) (fun h => ?_)
  refine (List.mem_append.mp h).elim (fun h => wsL_law_r6_in w h) (fun h => ?_)
  refine (List.mem_append.mp h).elim (fun h => wsL_law_r7_in w h) (fun h => ?_)
  refine (List.mem_append.mp h).elim (fun h => wsL_law_r8_in w h) (fun h => ?_)
  refine (List.mem_append.mp h).elim (fun h => wsL_law_r9_in w h) (fun h => ?_)
  refine (List.mem_append.mp h).elim (fun h => wsL_law_r10_in w h) (fun h => ?_)
  refine (List.mem_append.mp h).elim (fun h => wsL_law_r11_in w h) (fun h => ?_)
  refine (List.mem_append.mp h).elim (fun h => wsL_law_r12_in w h) (fun h => ?_)
  refine (List.mem_append.mp h).elim (fun h => wsL_law_r13_in w h) (fun h => ?_)
  refine (List.mem_append.mp h).elim (fun h => wsL_law_r14_in w h) (fun h => ?_)
  refine (List.mem_append.mp h).elim (fun h => wsL_law_r15_in w h) (fun h => ?_)
  refine (List.mem_append.mp h).elim (fun h => wsL_law_r16_in w h) (fun h => ?_)
  refine (List.mem_append.mp h).elim (fun h => wsL_law_r17_in w h) (fun h => ?_)
  refine (List.mem_append.mp h).elim (fun h => wsL_law_r18_in w h) (fun h => ?_)
  refine (List.mem_append.mp h).elim (fun h => wsL_law_r19_in w h) (fun h => ?_)
  refine (List.mem_append.mp h).elim (fun h => wsL_law_r20_in w h) (fun h => ?_)
  refine (List.mem_append.mp h).elim (fun h => wsL_law_r21_in w h) (fun h => ?_)
  refine (List.mem_append.mp h).elim (fun h => wsL_law_r22_in w h) (fun h => ?_)
  refine (List.mem_append.mp h).elim (fun h => wsL_law_r23_in w h) (fun h => ?_)
  refine (List.mem_append.mp h).elim (fun h => wsL_law_r24_in w h) (fun h => ?_)
  refine (List.mem_append.mp h).elim (fun h => wsL_law_r25_in w h) (fun h => ?_)
  refine (List.mem_append.mp h).elim (fun h => wsL_law_r26_in w h) (fun h => ?_)
  refine (List.mem_append.mp h).elim (fun h => wsL_law_r27_in w h) (fun h => ?_)
  exact wsL_law_r28_in w h
theorem inlX0 : ∀ w ∈ wsX00, w ∈ wsL_law := fun _ h => List.mem_append_left _ (List.mem_append_left _ (List.mem_append_right _ h))
theorem inX0 : ∀ w ∈ wsX00, w ∈ lw_tbl := fun w h => wsL_law_in w (inlX0 w h)
theorem inX1 : ∀ w ∈ wsX10, w ∈ lw_tbl := by decide +kernel
theorem inX2 : ∀ w ∈ wsX20, w ∈ lw_tbl := by decide +kernel
theorem inX3 : ∀ w ∈ wsX30, w ∈ lw_tbl := by decide +kernel
theorem inlX4 : ∀ w ∈ wsX40, w ∈ wsL_law := fun _ h => List.mem_append_left _ (List.mem_append_right _ h)
theorem inX4 : ∀ w ∈ wsX40, w ∈ lw_tbl := fun w h => wsL_law_in w (inlX4 w h)
theorem inX5 : ∀ w ∈ wsX50, w ∈ lw_tbl := by decide +kernel
theorem inlX6 : ∀ w ∈ wsX60, w ∈ wsL_law := fun _ h => List.mem_append_left _ (List.mem_append_left _ (List.mem_append_left _ (List.mem_append_left _ (List.mem_append_right _ h))))
theorem inX6 : ∀ w ∈ wsX60, w ∈ lw_tbl := fun w h => wsL_law_in w (inlX6 w h)
theorem inlX7 : ∀ w ∈ wsX70, w ∈ wsL_law := fun _ h => List.mem_append_left _ (List.mem_append_left _ (List.mem_append_left _ (List.mem_append_right _ h)))
theorem inX7 : ∀ w ∈ wsX70, w ∈ lw_tbl := fun w h => wsL_law_in w (inlX7 w h)
theorem inJxe99ae : ∀ w ∈ wsJxe99ae0, w ∈ lw_tbl := by decide +kernel
theorem inJxf58ca : ∀ w ∈ wsJxf58ca0, w ∈ lw_tbl := by decide +kernel
theorem inJ9 : ∀ w ∈ wsJ90, w ∈ lw_tbl := by decide +kernel
theorem dX0_init_0 : decode cX0_init 0 = .ok (.aload_n 0, 1) := by decide +kernel
theorem dX0_init_1 : decode cX0_init 1 = .ok (.invokespecial 3, 3) := by decide +kernel
theorem dX0_init_4 : decode cX0_init 4 = .ok (.aload_n 0, 1) := by decide +kernel
theorem dX0_init_5 : decode cX0_init 5 = .ok (.bipush 8, 2) := by decide +kernel
theorem dX0_init_7 : decode cX0_init 7 = .ok (.newarray .long, 2) := by decide +kernel
theorem dX0_init_9 : decode cX0_init 9 = .ok (.putfield 9, 3) := by decide +kernel
theorem dX0_init_12 : decode cX0_init 12 = .ok (.aload_n 0, 1) := by decide +kernel
theorem dX0_init_13 : decode cX0_init 13 = .ok (.ldc2_w 17, 3) := by decide +kernel
theorem dX0_init_16 : decode cX0_init 16 = .ok (.putfield 19, 3) := by decide +kernel
theorem dX0_init_19 : decode cX0_init 19 = .ok (.aload_n 0, 1) := by decide +kernel
theorem dX0_init_20 : decode cX0_init 20 = .ok (.ldc2_w 23, 3) := by decide +kernel
theorem dX0_init_23 : decode cX0_init 23 = .ok (.putfield 25, 3) := by decide +kernel
theorem dX0_init_26 : decode cX0_init 26 = .ok (.aload_n 0, 1) := by decide +kernel
theorem dX0_init_27 : decode cX0_init 27 = .ok (.ldc2_w 28, 3) := by decide +kernel
theorem dX0_init_30 : decode cX0_init 30 = .ok (.putfield 30, 3) := by decide +kernel
theorem dX0_init_33 : decode cX0_init 33 = .ok (.aload_n 0, 1) := by decide +kernel
theorem dX0_init_34 : decode cX0_init 34 = .ok (.iload_n 1, 1) := by decide +kernel
theorem dX0_init_35 : decode cX0_init 35 = .ok (.putfield 33, 3) := by decide +kernel
theorem dX0_init_38 : decode cX0_init 38 = .ok (.return_, 1) := by decide +kernel
set_option maxRecDepth 20000 in
theorem ggX0_walled_X1_lesser : GoodIn wsX0_walled wsX1_lesser := goodIn_r _ [6, 7, 8, 5, 9, 10] (by decide +kernel) (by decide +kernel)
set_option maxRecDepth 20000 in
theorem gX0_walled_X1_lesser : GoodIn wsX0_walled (va_wsS RX0 37 yX1_lesser wsX1_lesser) := goodIn_app (goodIn_of _ (by decide +kernel)) ggX0_walled_X1_lesser
set_option maxRecDepth 20000 in
theorem ggX0_walled_X1_greater : GoodIn wsX0_walled wsX1_greater := goodIn_r _ [13, 7, 8, 5, 9, 10] (by decide +kernel) (by decide +kernel)
set_option maxRecDepth 20000 in
theorem gX0_walled_X1_greater : GoodIn wsX0_walled (va_wsS RX0 41 yX1_greater wsX1_greater) := goodIn_app (goodIn_of _ (by decide +kernel)) ggX0_walled_X1_greater
theorem dX0_walled_0 : decode cX0_walled 0 = .ok (.lload_n 1, 1) := by decide +kernel
theorem dX0_walled_1 : decode cX0_walled 1 = .ok (.aload_n 0, 1) := by decide +kernel
theorem dX0_walled_2 : decode cX0_walled 2 = .ok (.getfield 25, 3) := by decide +kernel
theorem dX0_walled_5 : decode cX0_walled 5 = .ok (.invokestatic 37, 3) := by decide +kernel
theorem dX0_walled_8 : decode cX0_walled 8 = .ok (.aload_n 0, 1) := by decide +kernel
theorem dX0_walled_9 : decode cX0_walled 9 = .ok (.getfield 19, 3) := by decide +kernel
theorem dX0_walled_12 : decode cX0_walled 12 = .ok (.invokestatic 41, 3) := by decide +kernel
theorem dX0_walled_15 : decode cX0_walled 15 = .ok (.lreturn, 1) := by decide +kernel
set_option maxRecDepth 20000 in
theorem ggX0_wallAll_X0_walled : GoodIn wsX0_wallAll wsX0_walled := goodIn_r _ [8, 2, 1, 9, 10, 11, 12, 13, 14, 15, 16, 17, 18, 19, 20, 21, 22, 23, 24] (by decide +kernel) (by decide +kernel)
set_option maxRecDepth 20000 in
theorem gX0_wallAll_X0_walled : GoodIn wsX0_wallAll (wsV RX0 44 RX0 yX0_walled wsX0_walled) := goodIn_app (goodIn_of _ (by decide +kernel)) ggX0_wallAll_X0_walled
theorem dX0_wallAll_0 : decode cX0_wallAll 0 = .ok (.aload_n 0, 1) := by decide +kernel
theorem dX0_wallAll_1 : decode cX0_wallAll 1 = .ok (.lload_n 1, 1) := by decide +kernel
theorem dX0_wallAll_2 : decode cX0_wallAll 2 = .ok (.putfield 19, 3) := by decide +kernel
theorem dX0_wallAll_5 : decode cX0_wallAll 5 = .ok (.aload_n 0, 1) := by decide +kernel
theorem dX0_wallAll_6 : decode cX0_wallAll 6 = .ok (.lload_n 3, 1) := by decide +kernel
theorem dX0_wallAll_7 : decode cX0_wallAll 7 = .ok (.putfield 25, 3) := by decide +kernel
theorem dX0_wallAll_10 : decode cX0_wallAll 10 = .ok (.iconst 0, 1) := by decide +kernel
theorem dX0_wallAll_11 : decode cX0_wallAll 11 = .ok (.istore 5, 2) := by decide +kernel
theorem dX0_wallAll_13 : decode cX0_wallAll 13 = .ok (.iconst 0, 1) := by decide +kernel
theorem dX0_wallAll_14 : decode cX0_wallAll 14 = .ok (.istore 6, 2) := by decide +kernel
theorem dX0_wallAll_16 : decode cX0_wallAll 16 = .ok (.iload 6, 2) := by decide +kernel
theorem dX0_wallAll_18 : decode cX0_wallAll 18 = .ok (.bipush 8, 2) := by decide +kernel
theorem dX0_wallAll_20 : decode cX0_wallAll 20 = .ok (.if_icmp .ge 47, 3) := by decide +kernel
theorem dX0_wallAll_23 : decode cX0_wallAll 23 = .ok (.aload_n 0, 1) := by decide +kernel
theorem dX0_wallAll_24 : decode cX0_wallAll 24 = .ok (.aload_n 0, 1) := by decide +kernel
theorem dX0_wallAll_25 : decode cX0_wallAll 25 = .ok (.getfield 9, 3) := by decide +kernel
theorem dX0_wallAll_28 : decode cX0_wallAll 28 = .ok (.iload 6, 2) := by decide +kernel
theorem dX0_wallAll_30 : decode cX0_wallAll 30 = .ok (.laload, 1) := by decide +kernel
theorem dX0_wallAll_31 : decode cX0_wallAll 31 = .ok (.invokevirtual 44, 3) := by decide +kernel
theorem dX0_wallAll_34 : decode cX0_wallAll 34 = .ok (.lstore 7, 2) := by decide +kernel
theorem dX0_wallAll_36 : decode cX0_wallAll 36 = .ok (.lload 7, 2) := by decide +kernel
theorem dX0_wallAll_38 : decode cX0_wallAll 38 = .ok (.aload_n 0, 1) := by decide +kernel
theorem dX0_wallAll_39 : decode cX0_wallAll 39 = .ok (.getfield 9, 3) := by decide +kernel
theorem dX0_wallAll_42 : decode cX0_wallAll 42 = .ok (.iload 6, 2) := by decide +kernel
theorem dX0_wallAll_44 : decode cX0_wallAll 44 = .ok (.laload, 1) := by decide +kernel
theorem dX0_wallAll_45 : decode cX0_wallAll 45 = .ok (.lcmp, 1) := by decide +kernel
theorem dX0_wallAll_46 : decode cX0_wallAll 46 = .ok (.ifCond .eq 6, 3) := by decide +kernel
theorem dX0_wallAll_49 : decode cX0_wallAll 49 = .ok (.iinc 5 1, 3) := by decide +kernel
theorem dX0_wallAll_52 : decode cX0_wallAll 52 = .ok (.aload_n 0, 1) := by decide +kernel
theorem dX0_wallAll_53 : decode cX0_wallAll 53 = .ok (.getfield 9, 3) := by decide +kernel
theorem dX0_wallAll_56 : decode cX0_wallAll 56 = .ok (.iload 6, 2) := by decide +kernel
theorem dX0_wallAll_58 : decode cX0_wallAll 58 = .ok (.lload 7, 2) := by decide +kernel
theorem dX0_wallAll_60 : decode cX0_wallAll 60 = .ok (.lastore, 1) := by decide +kernel
theorem dX0_wallAll_61 : decode cX0_wallAll 61 = .ok (.iinc 6 1, 3) := by decide +kernel
theorem dX0_wallAll_64 : decode cX0_wallAll 64 = .ok (.goto (-48), 3) := by decide +kernel
theorem dX0_wallAll_67 : decode cX0_wallAll 67 = .ok (.iload 5, 2) := by decide +kernel
theorem dX0_wallAll_69 : decode cX0_wallAll 69 = .ok (.ireturn, 1) := by decide +kernel
set_option maxRecDepth 20000 in
theorem ggX0_sum_X1_value : GoodIn wsX0_sum wsX1_value := goodIn_r _ [6, 7, 8, 5, 9, 10, 11, 12, 13, 14, 15, 16, 17, 18, 19, 20, 21, 22, 23, 24, 25, 26, 27, 28, 29, 30, 31, 32, 33, 34, 35, 36, 37] (by decide +kernel) (by decide +kernel)
set_option maxRecDepth 20000 in
theorem gX0_sum_X1_value : GoodIn wsX0_sum (va_wsS RX0 48 yX1_value wsX1_value) := goodIn_app (goodIn_of _ (by decide +kernel)) ggX0_sum_X1_value
set_option maxRecDepth 20000 in
theorem ggX0_sum_X1_of : GoodIn wsX0_sum wsX1_of := goodIn_r _ [40, 41, 42, 43, 5, 44, 16, 45, 17, 18, 19, 20, 21, 46, 47, 48, 25, 26, 27, 28, 29, 30, 31, 32, 33, 34, 35, 36, 37, 49, 50, 51, 22, 23, 24] (by decide +kernel) (by decide +kernel)
set_option maxRecDepth 20000 in
theorem gX0_sum_X1_of : GoodIn wsX0_sum (va_wsS RX0 54 yX1_of wsX1_of) := goodIn_app (goodIn_of _ (by decide +kernel)) ggX0_sum_X1_of
theorem dX0_sum_0 : decode cX0_sum 0 = .ok (.lload_n 1, 1) := by decide +kernel
theorem dX0_sum_1 : decode cX0_sum 1 = .ok (.invokestatic 48, 3) := by decide +kernel
theorem dX0_sum_4 : decode cX0_sum 4 = .ok (.dstore 5, 2) := by decide +kernel
theorem dX0_sum_6 : decode cX0_sum 6 = .ok (.lload_n 3, 1) := by decide +kernel
theorem dX0_sum_7 : decode cX0_sum 7 = .ok (.invokestatic 48, 3) := by decide +kernel
theorem dX0_sum_10 : decode cX0_sum 10 = .ok (.dstore 7, 2) := by decide +kernel
theorem dX0_sum_12 : decode cX0_sum 12 = .ok (.aload_n 0, 1) := by decide +kernel
theorem dX0_sum_13 : decode cX0_sum 13 = .ok (.getfield 33, 3) := by decide +kernel
theorem dX0_sum_16 : decode cX0_sum 16 = .ok (.ifCond .eq 14, 3) := by decide +kernel
theorem dX0_sum_19 : decode cX0_sum 19 = .ok (.dload 5, 2) := by decide +kernel
theorem dX0_sum_21 : decode cX0_sum 21 = .ok (.d2f, 1) := by decide +kernel
theorem dX0_sum_22 : decode cX0_sum 22 = .ok (.dload 7, 2) := by decide +kernel
theorem dX0_sum_24 : decode cX0_sum 24 = .ok (.d2f, 1) := by decide +kernel
theorem dX0_sum_25 : decode cX0_sum 25 = .ok (.fadd, 1) := by decide +kernel
theorem dX0_sum_26 : decode cX0_sum 26 = .ok (.f2d, 1) := by decide +kernel
theorem dX0_sum_27 : decode cX0_sum 27 = .ok (.goto 8, 3) := by decide +kernel
theorem dX0_sum_30 : decode cX0_sum 30 = .ok (.dload 5, 2) := by decide +kernel
theorem dX0_sum_32 : decode cX0_sum 32 = .ok (.dload 7, 2) := by decide +kernel
theorem dX0_sum_34 : decode cX0_sum 34 = .ok (.dadd, 1) := by decide +kernel
theorem dX0_sum_35 : decode cX0_sum 35 = .ok (.dstore 9, 2) := by decide +kernel
theorem dX0_sum_37 : decode cX0_sum 37 = .ok (.dload 9, 2) := by decide +kernel
theorem dX0_sum_39 : decode cX0_sum 39 = .ok (.dconst 0, 1) := by decide +kernel
theorem dX0_sum_40 : decode cX0_sum 40 = .ok (.dcmp .l, 1) := by decide +kernel
theorem dX0_sum_41 : decode cX0_sum 41 = .ok (.ifCond .ne 13, 3) := by decide +kernel
theorem dX0_sum_44 : decode cX0_sum 44 = .ok (.lload_n 1, 1) := by decide +kernel
theorem dX0_sum_45 : decode cX0_sum 45 = .ok (.lload_n 3, 1) := by decide +kernel
theorem dX0_sum_46 : decode cX0_sum 46 = .ok (.land, 1) := by decide +kernel
theorem dX0_sum_47 : decode cX0_sum 47 = .ok (.ldc2_w 52, 3) := by decide +kernel
theorem dX0_sum_50 : decode cX0_sum 50 = .ok (.land, 1) := by decide +kernel
theorem dX0_sum_51 : decode cX0_sum 51 = .ok (.goto 8, 3) := by decide +kernel
theorem dX0_sum_54 : decode cX0_sum 54 = .ok (.dload 9, 2) := by decide +kernel
theorem dX0_sum_56 : decode cX0_sum 56 = .ok (.invokestatic 54, 3) := by decide +kernel
theorem dX0_sum_59 : decode cX0_sum 59 = .ok (.lreturn, 1) := by decide +kernel
set_option maxRecDepth 20000 in
theorem ggX0_apart_X1_value : GoodIn wsX0_apart wsX1_value := goodIn_r _ [5, 6, 7, 4, 8, 9, 10, 11, 12, 13, 14, 15, 16, 17, 18, 19, 20, 21, 22, 23, 24, 25, 26, 27, 28, 29, 30, 31, 32, 33, 34, 35, 36] (by decide +kernel) (by decide +kernel)
set_option maxRecDepth 20000 in
theorem gX0_apart_X1_value : GoodIn wsX0_apart (va_wsS RX0 48 yX1_value wsX1_value) := goodIn_app (goodIn_of _ (by decide +kernel)) ggX0_apart_X1_value
theorem dX0_apart_0 : decode cX0_apart 0 = .ok (.lload_n 1, 1) := by decide +kernel
theorem dX0_apart_1 : decode cX0_apart 1 = .ok (.invokestatic 48, 3) := by decide +kernel
theorem dX0_apart_4 : decode cX0_apart 4 = .ok (.dstore 5, 2) := by decide +kernel
theorem dX0_apart_6 : decode cX0_apart 6 = .ok (.lload_n 3, 1) := by decide +kernel
theorem dX0_apart_7 : decode cX0_apart 7 = .ok (.invokestatic 48, 3) := by decide +kernel
theorem dX0_apart_10 : decode cX0_apart 10 = .ok (.dstore 7, 2) := by decide +kernel
theorem dX0_apart_12 : decode cX0_apart 12 = .ok (.aload_n 0, 1) := by decide +kernel
theorem dX0_apart_13 : decode cX0_apart 13 = .ok (.getfield 33, 3) := by decide +kernel
theorem dX0_apart_16 : decode cX0_apart 16 = .ok (.ifCond .eq 14, 3) := by decide +kernel
theorem dX0_apart_19 : decode cX0_apart 19 = .ok (.dload 5, 2) := by decide +kernel
theorem dX0_apart_21 : decode cX0_apart 21 = .ok (.d2f, 1) := by decide +kernel
theorem dX0_apart_22 : decode cX0_apart 22 = .ok (.dload 7, 2) := by decide +kernel
theorem dX0_apart_24 : decode cX0_apart 24 = .ok (.d2f, 1) := by decide +kernel
theorem dX0_apart_25 : decode cX0_apart 25 = .ok (.fsub, 1) := by decide +kernel
theorem dX0_apart_26 : decode cX0_apart 26 = .ok (.f2d, 1) := by decide +kernel
theorem dX0_apart_27 : decode cX0_apart 27 = .ok (.goto 8, 3) := by decide +kernel
theorem dX0_apart_30 : decode cX0_apart 30 = .ok (.dload 5, 2) := by decide +kernel
theorem dX0_apart_32 : decode cX0_apart 32 = .ok (.dload 7, 2) := by decide +kernel
theorem dX0_apart_34 : decode cX0_apart 34 = .ok (.dsub, 1) := by decide +kernel
theorem dX0_apart_35 : decode cX0_apart 35 = .ok (.dstore 9, 2) := by decide +kernel
theorem dX0_apart_37 : decode cX0_apart 37 = .ok (.dload 9, 2) := by decide +kernel
theorem dX0_apart_39 : decode cX0_apart 39 = .ok (.dconst 0, 1) := by decide +kernel
theorem dX0_apart_40 : decode cX0_apart 40 = .ok (.dcmp .g, 1) := by decide +kernel
theorem dX0_apart_41 : decode cX0_apart 41 = .ok (.ifCond .ge 9, 3) := by decide +kernel
theorem dX0_apart_44 : decode cX0_apart 44 = .ok (.dload 9, 2) := by decide +kernel
theorem dX0_apart_46 : decode cX0_apart 46 = .ok (.dneg, 1) := by decide +kernel
theorem dX0_apart_47 : decode cX0_apart 47 = .ok (.goto 5, 3) := by decide +kernel
theorem dX0_apart_50 : decode cX0_apart 50 = .ok (.dload 9, 2) := by decide +kernel
theorem dX0_apart_52 : decode cX0_apart 52 = .ok (.dreturn, 1) := by decide +kernel
set_option maxRecDepth 20000 in
theorem ggX0_wholeSteps_X1_valueOfSize : GoodIn wsX0_wholeSteps wsX1_valueOfSize := goodIn_r _ [6, 7, 8, 9, 10, 11, 5, 12, 13, 14, 15, 16, 17, 18, 19, 20, 21, 22, 23, 24, 25, 26, 27, 28, 29, 30, 31, 32, 33, 34] (by decide +kernel) (by decide +kernel)
set_option maxRecDepth 20000 in
theorem gX0_wholeSteps_X1_valueOfSize : GoodIn wsX0_wholeSteps (va_wsS RX0 58 yX1_valueOfSize wsX1_valueOfSize) := goodIn_app (goodIn_of _ (by decide +kernel)) ggX0_wholeSteps_X1_valueOfSize
set_option maxRecDepth 20000 in
theorem ggX0_wholeSteps_X1_ofSize : GoodIn wsX0_wholeSteps wsX1_ofSize := goodIn_r _ [37, 13, 38, 14, 15, 16, 17, 18, 39, 40, 41, 22, 23, 24, 25, 26, 27, 28, 29, 30, 31, 32, 33, 34, 42, 43, 44, 19, 20, 21] (by decide +kernel) (by decide +kernel)
set_option maxRecDepth 20000 in
theorem gX0_wholeSteps_X1_ofSize : GoodIn wsX0_wholeSteps (va_wsS RX0 61 yX1_ofSize wsX1_ofSize) := goodIn_app (goodIn_of _ (by decide +kernel)) ggX0_wholeSteps_X1_ofSize
set_option maxRecDepth 20000 in
theorem ggX0_wholeSteps_X1_withSignOf : GoodIn wsX0_wholeSteps wsX1_withSignOf := goodIn_r _ [47, 7, 48] (by decide +kernel) (by decide +kernel)
set_option maxRecDepth 20000 in
theorem gX0_wholeSteps_X1_withSignOf : GoodIn wsX0_wholeSteps (va_wsS RX0 64 yX1_withSignOf wsX1_withSignOf) := goodIn_app (goodIn_of _ (by decide +kernel)) ggX0_wholeSteps_X1_withSignOf
set_option maxRecDepth 20000 in
theorem ggX0_wholeSteps_X5_whole : GoodIn wsX0_wholeSteps wsX5_whole := goodIn_r _ [52, 53, 54, 55, 56, 4, 5, 6, 7, 8, 9, 10, 11, 12, 13, 14, 15, 16, 17, 18, 19, 20, 21, 22, 23, 24, 25, 26, 27, 28, 29, 30, 31, 32, 33, 34, 57, 58, 51, 59, 60, 61, 36, 37, 38, 39, 40, 41, 42, 43, 44, 62, 46, 47, 48] (by decide +kernel) (by decide +kernel)
set_option maxRecDepth 20000 in
theorem gX0_wholeSteps_X5_whole : GoodIn wsX0_wholeSteps (va_wsS RX0 67 yX5_whole wsX5_whole) := goodIn_app (goodIn_of _ (by decide +kernel)) ggX0_wholeSteps_X5_whole
theorem dX0_wholeSteps_0 : decode cX0_wholeSteps 0 = .ok (.lload_n 1, 1) := by decide +kernel
theorem dX0_wholeSteps_1 : decode cX0_wholeSteps 1 = .ok (.invokestatic 58, 3) := by decide +kernel
theorem dX0_wholeSteps_4 : decode cX0_wholeSteps 4 = .ok (.dstore 4, 2) := by decide +kernel
theorem dX0_wholeSteps_6 : decode cX0_wholeSteps 6 = .ok (.aload_n 0, 1) := by decide +kernel
theorem dX0_wholeSteps_7 : decode cX0_wholeSteps 7 = .ok (.getfield 30, 3) := by decide +kernel
theorem dX0_wholeSteps_10 : decode cX0_wholeSteps 10 = .ok (.invokestatic 58, 3) := by decide +kernel
theorem dX0_wholeSteps_13 : decode cX0_wholeSteps 13 = .ok (.dstore 6, 2) := by decide +kernel
theorem dX0_wholeSteps_15 : decode cX0_wholeSteps 15 = .ok (.aload_n 0, 1) := by decide +kernel
theorem dX0_wholeSteps_16 : decode cX0_wholeSteps 16 = .ok (.getfield 33, 3) := by decide +kernel
theorem dX0_wholeSteps_19 : decode cX0_wholeSteps 19 = .ok (.ifCond .eq 14, 3) := by decide +kernel
theorem dX0_wholeSteps_22 : decode cX0_wholeSteps 22 = .ok (.dload 4, 2) := by decide +kernel
theorem dX0_wholeSteps_24 : decode cX0_wholeSteps 24 = .ok (.d2f, 1) := by decide +kernel
theorem dX0_wholeSteps_25 : decode cX0_wholeSteps 25 = .ok (.dload 6, 2) := by decide +kernel
theorem dX0_wholeSteps_27 : decode cX0_wholeSteps 27 = .ok (.d2f, 1) := by decide +kernel
theorem dX0_wholeSteps_28 : decode cX0_wholeSteps 28 = .ok (.fdiv, 1) := by decide +kernel
theorem dX0_wholeSteps_29 : decode cX0_wholeSteps 29 = .ok (.f2d, 1) := by decide +kernel
theorem dX0_wholeSteps_30 : decode cX0_wholeSteps 30 = .ok (.goto 8, 3) := by decide +kernel
theorem dX0_wholeSteps_33 : decode cX0_wholeSteps 33 = .ok (.dload 4, 2) := by decide +kernel
theorem dX0_wholeSteps_35 : decode cX0_wholeSteps 35 = .ok (.dload 6, 2) := by decide +kernel
theorem dX0_wholeSteps_37 : decode cX0_wholeSteps 37 = .ok (.ddiv, 1) := by decide +kernel
theorem dX0_wholeSteps_38 : decode cX0_wholeSteps 38 = .ok (.dstore 8, 2) := by decide +kernel
theorem dX0_wholeSteps_40 : decode cX0_wholeSteps 40 = .ok (.dload 8, 2) := by decide +kernel
theorem dX0_wholeSteps_42 : decode cX0_wholeSteps 42 = .ok (.invokestatic 61, 3) := by decide +kernel
theorem dX0_wholeSteps_45 : decode cX0_wholeSteps 45 = .ok (.lload_n 1, 1) := by decide +kernel
theorem dX0_wholeSteps_46 : decode cX0_wholeSteps 46 = .ok (.invokestatic 64, 3) := by decide +kernel
theorem dX0_wholeSteps_49 : decode cX0_wholeSteps 49 = .ok (.iload_n 3, 1) := by decide +kernel
theorem dX0_wholeSteps_50 : decode cX0_wholeSteps 50 = .ok (.invokestatic 67, 3) := by decide +kernel
theorem dX0_wholeSteps_53 : decode cX0_wholeSteps 53 = .ok (.lreturn, 1) := by decide +kernel
set_option maxRecDepth 20000 in
theorem ggX0_snapped_X0_wholeSteps : GoodIn wsX0_snapped wsX0_wholeSteps := goodIn_r _ [7, 1, 2, 8, 9, 10, 11, 12, 13, 14, 15, 16, 17, 18, 19, 20, 21, 22, 23, 24, 25, 26, 27, 28, 29, 30, 31, 32, 33, 34, 35, 36, 37, 38, 39, 40, 41, 42, 43, 44, 45, 46, 47, 48, 49, 50, 51, 52, 53, 54, 55, 56, 57, 58, 59, 60, 61, 62, 63, 64, 65, 66, 67, 68, 69, 70, 71, 72] (by decide +kernel) (by decide +kernel)
set_option maxRecDepth 20000 in
theorem gX0_snapped_X0_wholeSteps : GoodIn wsX0_snapped (wsV RX0 73 RX0 yX0_wholeSteps wsX0_wholeSteps) := goodIn_app (goodIn_of _ (by decide +kernel)) ggX0_snapped_X0_wholeSteps
set_option maxRecDepth 20000 in
theorem ggX0_snapped_X1_valueOfSize : GoodIn wsX0_snapped wsX1_valueOfSize := goodIn_r _ [11, 12, 13, 14, 15, 16, 10, 17, 18, 19, 20, 21, 22, 23, 24, 25, 26, 27, 28, 29, 30, 31, 32, 33, 34, 35, 36, 37, 38, 39] (by decide +kernel) (by decide +kernel)
set_option maxRecDepth 20000 in
theorem gX0_snapped_X1_valueOfSize : GoodIn wsX0_snapped (va_wsS RX0 58 yX1_valueOfSize wsX1_valueOfSize) := goodIn_app (goodIn_of _ (by decide +kernel)) ggX0_snapped_X1_valueOfSize
set_option maxRecDepth 20000 in
theorem ggX0_snapped_X1_ofSize : GoodIn wsX0_snapped wsX1_ofSize := goodIn_r _ [42, 18, 43, 19, 20, 21, 22, 23, 44, 45, 46, 27, 28, 29, 30, 31, 32, 33, 34, 35, 36, 37, 38, 39, 47, 48, 49, 24, 25, 26] (by decide +kernel) (by decide +kernel)
set_option maxRecDepth 20000 in
theorem gX0_snapped_X1_ofSize : GoodIn wsX0_snapped (va_wsS RX0 61 yX1_ofSize wsX1_ofSize) := goodIn_app (goodIn_of _ (by decide +kernel)) ggX0_snapped_X1_ofSize
set_option maxRecDepth 20000 in
theorem ggX0_snapped_X1_withSignOf : GoodIn wsX0_snapped wsX1_withSignOf := goodIn_r _ [52, 12, 53] (by decide +kernel) (by decide +kernel)
set_option maxRecDepth 20000 in
theorem gX0_snapped_X1_withSignOf : GoodIn wsX0_snapped (va_wsS RX0 64 yX1_withSignOf wsX1_withSignOf) := goodIn_app (goodIn_of _ (by decide +kernel)) ggX0_snapped_X1_withSignOf
theorem dX0_snapped_0 : decode cX0_snapped 0 = .ok (.aload_n 0, 1) := by decide +kernel
theorem dX0_snapped_1 : decode cX0_snapped 1 = .ok (.lload_n 1, 1) := by decide +kernel
theorem dX0_snapped_2 : decode cX0_snapped 2 = .ok (.iload_n 3, 1) := by decide +kernel
theorem dX0_snapped_3 : decode cX0_snapped 3 = .ok (.invokevirtual 73, 3) := by decide +kernel
theorem dX0_snapped_6 : decode cX0_snapped 6 = .ok (.invokestatic 58, 3) := by decide +kernel
theorem dX0_snapped_9 : decode cX0_snapped 9 = .ok (.dstore 4, 2) := by decide +kernel
theorem dX0_snapped_11 : decode cX0_snapped 11 = .ok (.aload_n 0, 1) := by decide +kernel
theorem dX0_snapped_12 : decode cX0_snapped 12 = .ok (.getfield 30, 3) := by decide +kernel
theorem dX0_snapped_15 : decode cX0_snapped 15 = .ok (.invokestatic 58, 3) := by decide +kernel
theorem dX0_snapped_18 : decode cX0_snapped 18 = .ok (.dstore 6, 2) := by decide +kernel
theorem dX0_snapped_20 : decode cX0_snapped 20 = .ok (.aload_n 0, 1) := by decide +kernel
theorem dX0_snapped_21 : decode cX0_snapped 21 = .ok (.getfield 33, 3) := by decide +kernel
theorem dX0_snapped_24 : decode cX0_snapped 24 = .ok (.ifCond .eq 14, 3) := by decide +kernel
theorem dX0_snapped_27 : decode cX0_snapped 27 = .ok (.dload 4, 2) := by decide +kernel
theorem dX0_snapped_29 : decode cX0_snapped 29 = .ok (.d2f, 1) := by decide +kernel
theorem dX0_snapped_30 : decode cX0_snapped 30 = .ok (.dload 6, 2) := by decide +kernel
theorem dX0_snapped_32 : decode cX0_snapped 32 = .ok (.d2f, 1) := by decide +kernel
theorem dX0_snapped_33 : decode cX0_snapped 33 = .ok (.fmul, 1) := by decide +kernel
theorem dX0_snapped_34 : decode cX0_snapped 34 = .ok (.f2d, 1) := by decide +kernel
theorem dX0_snapped_35 : decode cX0_snapped 35 = .ok (.goto 8, 3) := by decide +kernel
theorem dX0_snapped_38 : decode cX0_snapped 38 = .ok (.dload 4, 2) := by decide +kernel
theorem dX0_snapped_40 : decode cX0_snapped 40 = .ok (.dload 6, 2) := by decide +kernel
theorem dX0_snapped_42 : decode cX0_snapped 42 = .ok (.dmul, 1) := by decide +kernel
theorem dX0_snapped_43 : decode cX0_snapped 43 = .ok (.dstore 8, 2) := by decide +kernel
theorem dX0_snapped_45 : decode cX0_snapped 45 = .ok (.dload 8, 2) := by decide +kernel
theorem dX0_snapped_47 : decode cX0_snapped 47 = .ok (.invokestatic 61, 3) := by decide +kernel
theorem dX0_snapped_50 : decode cX0_snapped 50 = .ok (.lload_n 1, 1) := by decide +kernel
theorem dX0_snapped_51 : decode cX0_snapped 51 = .ok (.invokestatic 64, 3) := by decide +kernel
theorem dX0_snapped_54 : decode cX0_snapped 54 = .ok (.lreturn, 1) := by decide +kernel
set_option maxRecDepth 20000 in
theorem ggX0_outermost_X1_outer : GoodIn wsX0_outermost wsX1_outer := goodIn_r _ [5, 6, 7, 4, 8, 9, 10, 11, 12, 13, 14, 15] (by decide +kernel) (by decide +kernel)
set_option maxRecDepth 20000 in
theorem gX0_outermost_X1_outer : GoodIn wsX0_outermost (va_wsS RX0 76 yX1_outer wsX1_outer) := goodIn_app (goodIn_of _ (by decide +kernel)) ggX0_outermost_X1_outer
theorem dX0_outermost_0 : decode cX0_outermost 0 = .ok (.aload_n 0, 1) := by decide +kernel
theorem dX0_outermost_1 : decode cX0_outermost 1 = .ok (.getfield 9, 3) := by decide +kernel
theorem dX0_outermost_4 : decode cX0_outermost 4 = .ok (.iconst 0, 1) := by decide +kernel
theorem dX0_outermost_5 : decode cX0_outermost 5 = .ok (.laload, 1) := by decide +kernel
theorem dX0_outermost_6 : decode cX0_outermost 6 = .ok (.lstore_n 2, 1) := by decide +kernel
theorem dX0_outermost_7 : decode cX0_outermost 7 = .ok (.iconst 1, 1) := by decide +kernel
theorem dX0_outermost_8 : decode cX0_outermost 8 = .ok (.istore 4, 2) := by decide +kernel
theorem dX0_outermost_10 : decode cX0_outermost 10 = .ok (.iload 4, 2) := by decide +kernel
theorem dX0_outermost_12 : decode cX0_outermost 12 = .ok (.bipush 8, 2) := by decide +kernel
theorem dX0_outermost_14 : decode cX0_outermost 14 = .ok (.if_icmp .ge 22, 3) := by decide +kernel
theorem dX0_outermost_17 : decode cX0_outermost 17 = .ok (.lload_n 2, 1) := by decide +kernel
theorem dX0_outermost_18 : decode cX0_outermost 18 = .ok (.aload_n 0, 1) := by decide +kernel
theorem dX0_outermost_19 : decode cX0_outermost 19 = .ok (.getfield 9, 3) := by decide +kernel
theorem dX0_outermost_22 : decode cX0_outermost 22 = .ok (.iload 4, 2) := by decide +kernel
theorem dX0_outermost_24 : decode cX0_outermost 24 = .ok (.laload, 1) := by decide +kernel
theorem dX0_outermost_25 : decode cX0_outermost 25 = .ok (.iload_n 1, 1) := by decide +kernel
theorem dX0_outermost_26 : decode cX0_outermost 26 = .ok (.invokestatic 76, 3) := by decide +kernel
theorem dX0_outermost_29 : decode cX0_outermost 29 = .ok (.lstore_n 2, 1) := by decide +kernel
theorem dX0_outermost_30 : decode cX0_outermost 30 = .ok (.iinc 4 1, 3) := by decide +kernel
theorem dX0_outermost_33 : decode cX0_outermost 33 = .ok (.goto (-23), 3) := by decide +kernel
theorem dX0_outermost_36 : decode cX0_outermost 36 = .ok (.lload_n 2, 1) := by decide +kernel
theorem dX0_outermost_37 : decode cX0_outermost 37 = .ok (.lreturn, 1) := by decide +kernel
theorem dX1_isNone_0 : decode cX1_isNone 0 = .ok (.lload_n 0, 1) := by decide +kernel
theorem dX1_isNone_1 : decode cX1_isNone 1 = .ok (.ldc2_w 9, 3) := by decide +kernel
theorem dX1_isNone_4 : decode cX1_isNone 4 = .ok (.land, 1) := by decide +kernel
theorem dX1_isNone_5 : decode cX1_isNone 5 = .ok (.ldc2_w 11, 3) := by decide +kernel
theorem dX1_isNone_8 : decode cX1_isNone 8 = .ok (.lcmp, 1) := by decide +kernel
theorem dX1_isNone_9 : decode cX1_isNone 9 = .ok (.ifCond .le 7, 3) := by decide +kernel
theorem dX1_isNone_12 : decode cX1_isNone 12 = .ok (.iconst 1, 1) := by decide +kernel
theorem dX1_isNone_13 : decode cX1_isNone 13 = .ok (.goto 4, 3) := by decide +kernel
theorem dX1_isNone_16 : decode cX1_isNone 16 = .ok (.iconst 0, 1) := by decide +kernel
theorem dX1_isNone_17 : decode cX1_isNone 17 = .ok (.ireturn, 1) := by decide +kernel
theorem dX1_isInfinite_0 : decode cX1_isInfinite 0 = .ok (.lload_n 0, 1) := by decide +kernel
theorem dX1_isInfinite_1 : decode cX1_isInfinite 1 = .ok (.ldc2_w 9, 3) := by decide +kernel
theorem dX1_isInfinite_4 : decode cX1_isInfinite 4 = .ok (.land, 1) := by decide +kernel

