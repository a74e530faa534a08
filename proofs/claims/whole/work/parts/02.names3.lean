theorem dX6_swing_13 : decode cX6_swing 13 = .ok (.lload_n 2, 1) := by decide +kernel
theorem dX6_swing_14 : decode cX6_swing 14 = .ok (.invokestatic 50, 3) := by decide +kernel
theorem dX6_swing_17 : decode cX6_swing 17 = .ok (.ifCond .eq 9, 3) := by decide +kernel
theorem dX6_swing_20 : decode cX6_swing 20 = .ok (.aload_n 0, 1) := by decide +kernel
theorem dX6_swing_21 : decode cX6_swing 21 = .ok (.iconst 2, 1) := by decide +kernel
theorem dX6_swing_22 : decode cX6_swing 22 = .ok (.invokevirtual 46, 3) := by decide +kernel
theorem dX6_swing_25 : decode cX6_swing 25 = .ok (.ireturn, 1) := by decide +kernel
theorem dX6_swing_26 : decode cX6_swing 26 = .ok (.lload_n 2, 1) := by decide +kernel
theorem dX6_swing_27 : decode cX6_swing 27 = .ok (.invokestatic 54, 3) := by decide +kernel
theorem dX6_swing_30 : decode cX6_swing 30 = .ok (.ifCond .eq 9, 3) := by decide +kernel
theorem dX6_swing_33 : decode cX6_swing 33 = .ok (.aload_n 0, 1) := by decide +kernel
theorem dX6_swing_34 : decode cX6_swing 34 = .ok (.iconst 3, 1) := by decide +kernel
theorem dX6_swing_35 : decode cX6_swing 35 = .ok (.invokevirtual 46, 3) := by decide +kernel
theorem dX6_swing_38 : decode cX6_swing 38 = .ok (.ireturn, 1) := by decide +kernel
theorem dX6_swing_39 : decode cX6_swing 39 = .ok (.aload_n 0, 1) := by decide +kernel
theorem dX6_swing_40 : decode cX6_swing 40 = .ok (.getfield 12, 3) := by decide +kernel
theorem dX6_swing_43 : decode cX6_swing 43 = .ok (.lload_n 2, 1) := by decide +kernel
theorem dX6_swing_44 : decode cX6_swing 44 = .ok (.lload_n 2, 1) := by decide +kernel
theorem dX6_swing_45 : decode cX6_swing 45 = .ok (.invokevirtual 79, 3) := by decide +kernel
theorem dX6_swing_48 : decode cX6_swing 48 = .ok (.lstore 4, 2) := by decide +kernel
theorem dX6_swing_50 : decode cX6_swing 50 = .ok (.aload_n 0, 1) := by decide +kernel
theorem dX6_swing_51 : decode cX6_swing 51 = .ok (.iload_n 1, 1) := by decide +kernel
theorem dX6_swing_52 : decode cX6_swing 52 = .ok (.aload_n 0, 1) := by decide +kernel
theorem dX6_swing_53 : decode cX6_swing 53 = .ok (.getfield 12, 3) := by decide +kernel
theorem dX6_swing_56 : decode cX6_swing 56 = .ok (.lload 4, 2) := by decide +kernel
theorem dX6_swing_58 : decode cX6_swing 58 = .ok (.aload_n 0, 1) := by decide +kernel
theorem dX6_swing_59 : decode cX6_swing 59 = .ok (.getfield 12, 3) := by decide +kernel
theorem dX6_swing_62 : decode cX6_swing 62 = .ok (.getfield 76, 3) := by decide +kernel
theorem dX6_swing_65 : decode cX6_swing 65 = .ok (.iload_n 1, 1) := by decide +kernel
theorem dX6_swing_66 : decode cX6_swing 66 = .ok (.laload, 1) := by decide +kernel
theorem dX6_swing_67 : decode cX6_swing 67 = .ok (.invokestatic 105, 3) := by decide +kernel
theorem dX6_swing_70 : decode cX6_swing 70 = .ok (.invokevirtual 79, 3) := by decide +kernel
theorem dX6_swing_73 : decode cX6_swing 73 = .ok (.aload_n 0, 1) := by decide +kernel
theorem dX6_swing_74 : decode cX6_swing 74 = .ok (.getfield 18, 3) := by decide +kernel
theorem dX6_swing_77 : decode cX6_swing 77 = .ok (.getfield 76, 3) := by decide +kernel
theorem dX6_swing_80 : decode cX6_swing 80 = .ok (.iload_n 1, 1) := by decide +kernel
theorem dX6_swing_81 : decode cX6_swing 81 = .ok (.laload, 1) := by decide +kernel
theorem dX6_swing_82 : decode cX6_swing 82 = .ok (.invokestatic 105, 3) := by decide +kernel
theorem dX6_swing_85 : decode cX6_swing 85 = .ok (.invokevirtual 57, 3) := by decide +kernel
theorem dX6_swing_88 : decode cX6_swing 88 = .ok (.ireturn, 1) := by decide +kernel
set_option maxRecDepth 20000 in
theorem ggX6_guide_X6_refuse : GoodIn wsX6_guide wsX6_refuse := goodIn_r _ [6, 7, 19, 20, 21, 22, 23, 24, 25] (by decide +kernel) (by decide +kernel)
set_option maxRecDepth 20000 in
theorem gX6_guide_X6_refuse : GoodIn wsX6_guide (wsV RX6 46 RX6 yX6_refuse wsX6_refuse) := goodIn_app (goodIn_of _ (by decide +kernel)) ggX6_guide_X6_refuse
set_option maxRecDepth 20000 in
theorem ggX6_guide_X1_isNone : GoodIn wsX6_guide wsX1_isNone := goodIn_r _ [11, 12, 13] (by decide +kernel) (by decide +kernel)
set_option maxRecDepth 20000 in
theorem gX6_guide_X1_isNone : GoodIn wsX6_guide (va_wsS RX6 50 yX1_isNone wsX1_isNone) := goodIn_app (goodIn_of _ (by decide +kernel)) ggX6_guide_X1_isNone
set_option maxRecDepth 20000 in
theorem ggX6_guide_X6_finish : GoodIn wsX6_guide wsX6_finish := goodIn_r _ [17, 18, 19, 20, 21, 22, 23, 24, 25] (by decide +kernel) (by decide +kernel)
set_option maxRecDepth 20000 in
theorem gX6_guide_X6_finish : GoodIn wsX6_guide (wsV RX6 72 RX6 yX6_finish wsX6_finish) := goodIn_app (goodIn_of _ (by decide +kernel)) ggX6_guide_X6_finish
theorem dX6_guide_0 : decode cX6_guide 0 = .ok (.iload_n 1, 1) := by decide +kernel
theorem dX6_guide_1 : decode cX6_guide 1 = .ok (.ifCond .lt 8, 3) := by decide +kernel
theorem dX6_guide_4 : decode cX6_guide 4 = .ok (.iload_n 1, 1) := by decide +kernel
theorem dX6_guide_5 : decode cX6_guide 5 = .ok (.iconst 4, 1) := by decide +kernel
theorem dX6_guide_6 : decode cX6_guide 6 = .ok (.if_icmp .lt 9, 3) := by decide +kernel
theorem dX6_guide_9 : decode cX6_guide 9 = .ok (.aload_n 0, 1) := by decide +kernel
theorem dX6_guide_10 : decode cX6_guide 10 = .ok (.iconst 1, 1) := by decide +kernel
theorem dX6_guide_11 : decode cX6_guide 11 = .ok (.invokevirtual 46, 3) := by decide +kernel
theorem dX6_guide_14 : decode cX6_guide 14 = .ok (.ireturn, 1) := by decide +kernel
theorem dX6_guide_15 : decode cX6_guide 15 = .ok (.lload_n 2, 1) := by decide +kernel
theorem dX6_guide_16 : decode cX6_guide 16 = .ok (.invokestatic 50, 3) := by decide +kernel
theorem dX6_guide_19 : decode cX6_guide 19 = .ok (.ifCond .eq 9, 3) := by decide +kernel
theorem dX6_guide_22 : decode cX6_guide 22 = .ok (.aload_n 0, 1) := by decide +kernel
theorem dX6_guide_23 : decode cX6_guide 23 = .ok (.iconst 2, 1) := by decide +kernel
theorem dX6_guide_24 : decode cX6_guide 24 = .ok (.invokevirtual 46, 3) := by decide +kernel
theorem dX6_guide_27 : decode cX6_guide 27 = .ok (.ireturn, 1) := by decide +kernel
theorem dX6_guide_28 : decode cX6_guide 28 = .ok (.aload_n 0, 1) := by decide +kernel
theorem dX6_guide_29 : decode cX6_guide 29 = .ok (.getfield 28, 3) := by decide +kernel
theorem dX6_guide_32 : decode cX6_guide 32 = .ok (.iload_n 1, 1) := by decide +kernel
theorem dX6_guide_33 : decode cX6_guide 33 = .ok (.lload_n 2, 1) := by decide +kernel
theorem dX6_guide_34 : decode cX6_guide 34 = .ok (.lastore, 1) := by decide +kernel
theorem dX6_guide_35 : decode cX6_guide 35 = .ok (.aload_n 0, 1) := by decide +kernel
theorem dX6_guide_36 : decode cX6_guide 36 = .ok (.invokevirtual 72, 3) := by decide +kernel
theorem dX6_guide_39 : decode cX6_guide 39 = .ok (.ireturn, 1) := by decide +kernel
set_option maxRecDepth 20000 in
theorem ggX6_stick_X6_isPoint : GoodIn wsX6_stick wsX6_isPoint := goodIn_r _ [7] (by decide +kernel) (by decide +kernel)
set_option maxRecDepth 20000 in
theorem gX6_stick_X6_isPoint : GoodIn wsX6_stick (va_wsS RX6 42 yX6_isPoint wsX6_isPoint) := goodIn_app (goodIn_of _ (by decide +kernel)) ggX6_stick_X6_isPoint
set_option maxRecDepth 20000 in
theorem ggX6_stick_X6_refuse : GoodIn wsX6_stick wsX6_refuse := goodIn_r _ [11, 12, 103, 104, 105, 106, 107, 108, 109] (by decide +kernel) (by decide +kernel)
set_option maxRecDepth 20000 in
theorem gX6_stick_X6_refuse : GoodIn wsX6_stick (wsV RX6 46 RX6 yX6_refuse wsX6_refuse) := goodIn_app (goodIn_of _ (by decide +kernel)) ggX6_stick_X6_refuse
set_option maxRecDepth 20000 in
theorem ggX6_stick_X1_isNone : GoodIn wsX6_stick wsX1_isNone := goodIn_r _ [16, 17, 18] (by decide +kernel) (by decide +kernel)
set_option maxRecDepth 20000 in
theorem gX6_stick_X1_isNone : GoodIn wsX6_stick (va_wsS RX6 50 yX1_isNone wsX1_isNone) := goodIn_app (goodIn_of _ (by decide +kernel)) ggX6_stick_X1_isNone
set_option maxRecDepth 20000 in
theorem ggX6_stick_X1_value : GoodIn wsX6_stick wsX1_value := goodIn_r _ [21, 22, 23, 15, 24, 17, 25, 26, 27, 28, 29, 18, 30, 31, 32, 33, 34, 35, 36, 37, 38, 39, 40, 41, 42, 43, 44, 45, 46, 47, 48, 49, 50] (by decide +kernel) (by decide +kernel)
set_option maxRecDepth 20000 in
theorem gX6_stick_X1_value : GoodIn wsX6_stick (va_wsS RX6 109 yX1_value wsX1_value) := goodIn_app (goodIn_of _ (by decide +kernel)) ggX6_stick_X1_value
set_option maxRecDepth 20000 in
theorem ggX6_stick_X6_nearestGuide : GoodIn wsX6_stick wsX6_nearestGuide := goodIn_r _ [54, 2, 1, 55, 28, 15, 29, 17, 18, 56, 57, 58, 59, 60, 61, 62, 20, 21, 22, 23, 24, 25, 26, 27, 30, 31, 32, 33, 34, 35, 36, 37, 38, 39, 40, 41, 42, 43, 44, 45, 46, 47, 48, 49, 50, 103, 104, 105, 106, 107, 108, 109, 110, 111, 112, 113, 114] (by decide +kernel) (by decide +kernel)
set_option maxRecDepth 20000 in
theorem gX6_stick_X6_nearestGuide : GoodIn wsX6_stick (wsV RX6 113 RX6 yX6_nearestGuide wsX6_nearestGuide) := goodIn_app (goodIn_of _ (by decide +kernel)) ggX6_stick_X6_nearestGuide
set_option maxRecDepth 20000 in
theorem ggX6_stick_X0_apart : GoodIn wsX6_stick wsX0_apart := goodIn_r _ [60, 61, 62, 20, 15, 21, 22, 23, 24, 17, 25, 26, 27, 28, 29, 18, 30, 31, 32, 33, 34, 35, 36, 37, 38, 39, 40, 41, 42, 43, 44, 45, 46, 47, 48, 49, 50, 110, 111, 112, 113, 114] (by decide +kernel) (by decide +kernel)
set_option maxRecDepth 20000 in
theorem gX6_stick_X0_apart : GoodIn wsX6_stick (wsV RX6 117 RX0 yX0_apart wsX0_apart) := goodIn_app (goodIn_of _ (by decide +kernel)) ggX6_stick_X0_apart
set_option maxRecDepth 20000 in
theorem ggX6_stick_X6_putWalled : GoodIn wsX6_stick wsX6_putWalled := goodIn_r _ [66, 1, 3, 67, 68, 69, 70, 59, 71, 72, 73, 74, 75, 15, 76, 77, 78, 79, 17, 80, 81, 82, 55, 28, 29, 18, 8, 9, 10, 6, 11, 12, 83, 84, 85, 86, 87, 88, 89, 90, 91, 92, 93, 94, 95, 96, 97, 98, 99, 100, 101, 102, 103, 104, 105, 106, 107, 108, 109, 110, 111, 112, 113, 114, 115, 116, 117, 118, 119] (by decide +kernel) (by decide +kernel)
set_option maxRecDepth 20000 in
theorem gX6_stick_X6_putWalled : GoodIn wsX6_stick (wsV RX6 57 RX6 yX6_putWalled wsX6_putWalled) := goodIn_app (goodIn_of _ (by decide +kernel)) ggX6_stick_X6_putWalled
theorem dX6_stick_0 : decode cX6_stick 0 = .ok (.iload_n 1, 1) := by decide +kernel
theorem dX6_stick_1 : decode cX6_stick 1 = .ok (.invokestatic 42, 3) := by decide +kernel
theorem dX6_stick_4 : decode cX6_stick 4 = .ok (.ifCond .ne 9, 3) := by decide +kernel
theorem dX6_stick_7 : decode cX6_stick 7 = .ok (.aload_n 0, 1) := by decide +kernel
theorem dX6_stick_8 : decode cX6_stick 8 = .ok (.iconst 1, 1) := by decide +kernel
theorem dX6_stick_9 : decode cX6_stick 9 = .ok (.invokevirtual 46, 3) := by decide +kernel
theorem dX6_stick_12 : decode cX6_stick 12 = .ok (.ireturn, 1) := by decide +kernel
theorem dX6_stick_13 : decode cX6_stick 13 = .ok (.lload_n 2, 1) := by decide +kernel
theorem dX6_stick_14 : decode cX6_stick 14 = .ok (.invokestatic 50, 3) := by decide +kernel
theorem dX6_stick_17 : decode cX6_stick 17 = .ok (.ifCond .eq 9, 3) := by decide +kernel
theorem dX6_stick_20 : decode cX6_stick 20 = .ok (.aload_n 0, 1) := by decide +kernel
theorem dX6_stick_21 : decode cX6_stick 21 = .ok (.iconst 2, 1) := by decide +kernel
theorem dX6_stick_22 : decode cX6_stick 22 = .ok (.invokevirtual 46, 3) := by decide +kernel
theorem dX6_stick_25 : decode cX6_stick 25 = .ok (.ireturn, 1) := by decide +kernel
theorem dX6_stick_26 : decode cX6_stick 26 = .ok (.lload_n 2, 1) := by decide +kernel
theorem dX6_stick_27 : decode cX6_stick 27 = .ok (.invokestatic 109, 3) := by decide +kernel
theorem dX6_stick_30 : decode cX6_stick 30 = .ok (.dconst 0, 1) := by decide +kernel
theorem dX6_stick_31 : decode cX6_stick 31 = .ok (.dcmp .g, 1) := by decide +kernel
theorem dX6_stick_32 : decode cX6_stick 32 = .ok (.ifCond .ge 9, 3) := by decide +kernel
theorem dX6_stick_35 : decode cX6_stick 35 = .ok (.aload_n 0, 1) := by decide +kernel
theorem dX6_stick_36 : decode cX6_stick 36 = .ok (.iconst 4, 1) := by decide +kernel
theorem dX6_stick_37 : decode cX6_stick 37 = .ok (.invokevirtual 46, 3) := by decide +kernel
theorem dX6_stick_40 : decode cX6_stick 40 = .ok (.ireturn, 1) := by decide +kernel
theorem dX6_stick_41 : decode cX6_stick 41 = .ok (.aload_n 0, 1) := by decide +kernel
theorem dX6_stick_42 : decode cX6_stick 42 = .ok (.aload_n 0, 1) := by decide +kernel
theorem dX6_stick_43 : decode cX6_stick 43 = .ok (.getfield 12, 3) := by decide +kernel
theorem dX6_stick_46 : decode cX6_stick 46 = .ok (.getfield 76, 3) := by decide +kernel
theorem dX6_stick_49 : decode cX6_stick 49 = .ok (.iload_n 1, 1) := by decide +kernel
theorem dX6_stick_50 : decode cX6_stick 50 = .ok (.laload, 1) := by decide +kernel
theorem dX6_stick_51 : decode cX6_stick 51 = .ok (.invokevirtual 113, 3) := by decide +kernel
theorem dX6_stick_54 : decode cX6_stick 54 = .ok (.istore 4, 2) := by decide +kernel
theorem dX6_stick_56 : decode cX6_stick 56 = .ok (.iload 4, 2) := by decide +kernel
theorem dX6_stick_58 : decode cX6_stick 58 = .ok (.iconst (-1), 1) := by decide +kernel
theorem dX6_stick_59 : decode cX6_stick 59 = .ok (.if_icmp .eq 34, 3) := by decide +kernel
theorem dX6_stick_62 : decode cX6_stick 62 = .ok (.aload_n 0, 1) := by decide +kernel
theorem dX6_stick_63 : decode cX6_stick 63 = .ok (.getfield 12, 3) := by decide +kernel
theorem dX6_stick_66 : decode cX6_stick 66 = .ok (.aload_n 0, 1) := by decide +kernel
theorem dX6_stick_67 : decode cX6_stick 67 = .ok (.getfield 12, 3) := by decide +kernel
theorem dX6_stick_70 : decode cX6_stick 70 = .ok (.getfield 76, 3) := by decide +kernel
theorem dX6_stick_73 : decode cX6_stick 73 = .ok (.iload_n 1, 1) := by decide +kernel
theorem dX6_stick_74 : decode cX6_stick 74 = .ok (.laload, 1) := by decide +kernel
theorem dX6_stick_75 : decode cX6_stick 75 = .ok (.aload_n 0, 1) := by decide +kernel
theorem dX6_stick_76 : decode cX6_stick 76 = .ok (.getfield 28, 3) := by decide +kernel
theorem dX6_stick_79 : decode cX6_stick 79 = .ok (.iload 4, 2) := by decide +kernel
theorem dX6_stick_81 : decode cX6_stick 81 = .ok (.laload, 1) := by decide +kernel
theorem dX6_stick_82 : decode cX6_stick 82 = .ok (.invokevirtual 117, 3) := by decide +kernel
theorem dX6_stick_85 : decode cX6_stick 85 = .ok (.lload_n 2, 1) := by decide +kernel
theorem dX6_stick_86 : decode cX6_stick 86 = .ok (.invokestatic 109, 3) := by decide +kernel
theorem dX6_stick_89 : decode cX6_stick 89 = .ok (.dcmp .l, 1) := by decide +kernel
theorem dX6_stick_90 : decode cX6_stick 90 = .ok (.ifCond .le 10, 3) := by decide +kernel
theorem dX6_stick_93 : decode cX6_stick 93 = .ok (.aload_n 0, 1) := by decide +kernel
theorem dX6_stick_94 : decode cX6_stick 94 = .ok (.bipush 6, 2) := by decide +kernel
theorem dX6_stick_96 : decode cX6_stick 96 = .ok (.invokevirtual 46, 3) := by decide +kernel
theorem dX6_stick_99 : decode cX6_stick 99 = .ok (.ireturn, 1) := by decide +kernel
theorem dX6_stick_100 : decode cX6_stick 100 = .ok (.aload_n 0, 1) := by decide +kernel
theorem dX6_stick_101 : decode cX6_stick 101 = .ok (.iload_n 1, 1) := by decide +kernel
theorem dX6_stick_102 : decode cX6_stick 102 = .ok (.aload_n 0, 1) := by decide +kernel
theorem dX6_stick_103 : decode cX6_stick 103 = .ok (.getfield 28, 3) := by decide +kernel
theorem dX6_stick_106 : decode cX6_stick 106 = .ok (.iload 4, 2) := by decide +kernel
theorem dX6_stick_108 : decode cX6_stick 108 = .ok (.laload, 1) := by decide +kernel
theorem dX6_stick_109 : decode cX6_stick 109 = .ok (.aload_n 0, 1) := by decide +kernel
theorem dX6_stick_110 : decode cX6_stick 110 = .ok (.getfield 18, 3) := by decide +kernel
theorem dX6_stick_113 : decode cX6_stick 113 = .ok (.getfield 76, 3) := by decide +kernel
theorem dX6_stick_116 : decode cX6_stick 116 = .ok (.iload_n 1, 1) := by decide +kernel
theorem dX6_stick_117 : decode cX6_stick 117 = .ok (.laload, 1) := by decide +kernel
theorem dX6_stick_118 : decode cX6_stick 118 = .ok (.invokevirtual 57, 3) := by decide +kernel
theorem dX6_stick_121 : decode cX6_stick 121 = .ok (.ireturn, 1) := by decide +kernel
set_option maxRecDepth 20000 in
theorem ggX6_undo_X4_takeLatest : GoodIn wsX6_undo wsX4_takeLatest := goodIn_r _ [8, 9, 10, 18, 19, 20, 21, 22] (by decide +kernel) (by decide +kernel)
set_option maxRecDepth 20000 in
theorem gX6_undo_X4_takeLatest : GoodIn wsX6_undo (wsV RX6 125 RX4 yX4_takeLatest wsX4_takeLatest) := goodIn_app (goodIn_of _ (by decide +kernel)) ggX6_undo_X4_takeLatest
theorem dX6_undo_0 : decode cX6_undo 0 = .ok (.aload_n 0, 1) := by decide +kernel
theorem dX6_undo_1 : decode cX6_undo 1 = .ok (.getfield 24, 3) := by decide +kernel
theorem dX6_undo_4 : decode cX6_undo 4 = .ok (.getfield 121, 3) := by decide +kernel
theorem dX6_undo_7 : decode cX6_undo 7 = .ok (.ifCond .ne 5, 3) := by decide +kernel
theorem dX6_undo_10 : decode cX6_undo 10 = .ok (.iconst (-1), 1) := by decide +kernel
theorem dX6_undo_11 : decode cX6_undo 11 = .ok (.ireturn, 1) := by decide +kernel
theorem dX6_undo_12 : decode cX6_undo 12 = .ok (.aload_n 0, 1) := by decide +kernel
theorem dX6_undo_13 : decode cX6_undo 13 = .ok (.getfield 24, 3) := by decide +kernel
theorem dX6_undo_16 : decode cX6_undo 16 = .ok (.invokevirtual 125, 3) := by decide +kernel
theorem dX6_undo_19 : decode cX6_undo 19 = .ok (.istore_n 1, 1) := by decide +kernel
theorem dX6_undo_20 : decode cX6_undo 20 = .ok (.aload_n 0, 1) := by decide +kernel
theorem dX6_undo_21 : decode cX6_undo 21 = .ok (.getfield 24, 3) := by decide +kernel
theorem dX6_undo_24 : decode cX6_undo 24 = .ok (.getfield 128, 3) := by decide +kernel
theorem dX6_undo_27 : decode cX6_undo 27 = .ok (.iload_n 1, 1) := by decide +kernel
theorem dX6_undo_28 : decode cX6_undo 28 = .ok (.iaload, 1) := by decide +kernel
theorem dX6_undo_29 : decode cX6_undo 29 = .ok (.istore_n 2, 1) := by decide +kernel
theorem dX6_undo_30 : decode cX6_undo 30 = .ok (.aload_n 0, 1) := by decide +kernel
theorem dX6_undo_31 : decode cX6_undo 31 = .ok (.getfield 12, 3) := by decide +kernel
theorem dX6_undo_34 : decode cX6_undo 34 = .ok (.getfield 76, 3) := by decide +kernel
theorem dX6_undo_37 : decode cX6_undo 37 = .ok (.iload_n 2, 1) := by decide +kernel
theorem dX6_undo_38 : decode cX6_undo 38 = .ok (.aload_n 0, 1) := by decide +kernel
theorem dX6_undo_39 : decode cX6_undo 39 = .ok (.getfield 24, 3) := by decide +kernel
theorem dX6_undo_42 : decode cX6_undo 42 = .ok (.getfield 132, 3) := by decide +kernel
theorem dX6_undo_45 : decode cX6_undo 45 = .ok (.iload_n 1, 1) := by decide +kernel
theorem dX6_undo_46 : decode cX6_undo 46 = .ok (.laload, 1) := by decide +kernel
theorem dX6_undo_47 : decode cX6_undo 47 = .ok (.lastore, 1) := by decide +kernel
theorem dX6_undo_48 : decode cX6_undo 48 = .ok (.aload_n 0, 1) := by decide +kernel
theorem dX6_undo_49 : decode cX6_undo 49 = .ok (.getfield 18, 3) := by decide +kernel
theorem dX6_undo_52 : decode cX6_undo 52 = .ok (.getfield 76, 3) := by decide +kernel
theorem dX6_undo_55 : decode cX6_undo 55 = .ok (.iload_n 2, 1) := by decide +kernel
theorem dX6_undo_56 : decode cX6_undo 56 = .ok (.aload_n 0, 1) := by decide +kernel
theorem dX6_undo_57 : decode cX6_undo 57 = .ok (.getfield 24, 3) := by decide +kernel
theorem dX6_undo_60 : decode cX6_undo 60 = .ok (.getfield 134, 3) := by decide +kernel
theorem dX6_undo_63 : decode cX6_undo 63 = .ok (.iload_n 1, 1) := by decide +kernel
theorem dX6_undo_64 : decode cX6_undo 64 = .ok (.laload, 1) := by decide +kernel
theorem dX6_undo_65 : decode cX6_undo 65 = .ok (.lastore, 1) := by decide +kernel
theorem dX6_undo_66 : decode cX6_undo 66 = .ok (.iload_n 2, 1) := by decide +kernel
theorem dX6_undo_67 : decode cX6_undo 67 = .ok (.ireturn, 1) := by decide +kernel
set_option maxRecDepth 20000 in
theorem ggX6_x_X6_isPoint : GoodIn wsX6_x wsX6_isPoint := goodIn_r _ [5] (by decide +kernel) (by decide +kernel)
set_option maxRecDepth 20000 in
theorem gX6_x_X6_isPoint : GoodIn wsX6_x (va_wsS RX6 42 yX6_isPoint wsX6_isPoint) := goodIn_app (goodIn_of _ (by decide +kernel)) ggX6_x_X6_isPoint
theorem dX6_x_0 : decode cX6_x 0 = .ok (.iload_n 1, 1) := by decide +kernel
theorem dX6_x_1 : decode cX6_x 1 = .ok (.invokestatic 42, 3) := by decide +kernel
theorem dX6_x_4 : decode cX6_x 4 = .ok (.ifCond .eq 15, 3) := by decide +kernel
theorem dX6_x_7 : decode cX6_x 7 = .ok (.aload_n 0, 1) := by decide +kernel
theorem dX6_x_8 : decode cX6_x 8 = .ok (.getfield 12, 3) := by decide +kernel
theorem dX6_x_11 : decode cX6_x 11 = .ok (.getfield 76, 3) := by decide +kernel
theorem dX6_x_14 : decode cX6_x 14 = .ok (.iload_n 1, 1) := by decide +kernel
theorem dX6_x_15 : decode cX6_x 15 = .ok (.laload, 1) := by decide +kernel
theorem dX6_x_16 : decode cX6_x 16 = .ok (.goto 4, 3) := by decide +kernel
theorem dX6_x_19 : decode cX6_x 19 = .ok (.lconst 0, 1) := by decide +kernel
theorem dX6_x_20 : decode cX6_x 20 = .ok (.lreturn, 1) := by decide +kernel
set_option maxRecDepth 20000 in
theorem ggX6_y_X6_isPoint : GoodIn wsX6_y wsX6_isPoint := goodIn_r _ [5] (by decide +kernel) (by decide +kernel)
set_option maxRecDepth 20000 in
theorem gX6_y_X6_isPoint : GoodIn wsX6_y (va_wsS RX6 42 yX6_isPoint wsX6_isPoint) := goodIn_app (goodIn_of _ (by decide +kernel)) ggX6_y_X6_isPoint
set_option maxRecDepth 20000 in
theorem ggX6_y_X3_narrowed : GoodIn wsX6_y wsX3_narrowed := goodIn_r _ [9, 10, 11, 12, 13, 14, 15, 16, 17, 18, 19, 20, 21, 22, 23, 24, 25, 26, 27, 28, 29, 30, 31, 32, 33, 34, 35, 36, 37, 38, 39, 40, 41, 42, 43, 44, 45, 46] (by decide +kernel) (by decide +kernel)
set_option maxRecDepth 20000 in
theorem gX6_y_X3_narrowed : GoodIn wsX6_y (va_wsS RX6 136 yX3_narrowed wsX3_narrowed) := goodIn_app (goodIn_of _ (by decide +kernel)) ggX6_y_X3_narrowed
theorem dX6_y_0 : decode cX6_y 0 = .ok (.iload_n 1, 1) := by decide +kernel
theorem dX6_y_1 : decode cX6_y 1 = .ok (.invokestatic 42, 3) := by decide +kernel
theorem dX6_y_4 : decode cX6_y 4 = .ok (.ifCond .eq 18, 3) := by decide +kernel
theorem dX6_y_7 : decode cX6_y 7 = .ok (.aload_n 0, 1) := by decide +kernel
theorem dX6_y_8 : decode cX6_y 8 = .ok (.getfield 18, 3) := by decide +kernel
theorem dX6_y_11 : decode cX6_y 11 = .ok (.getfield 76, 3) := by decide +kernel
theorem dX6_y_14 : decode cX6_y 14 = .ok (.iload_n 1, 1) := by decide +kernel
theorem dX6_y_15 : decode cX6_y 15 = .ok (.laload, 1) := by decide +kernel
theorem dX6_y_16 : decode cX6_y 16 = .ok (.invokestatic 136, 3) := by decide +kernel
theorem dX6_y_19 : decode cX6_y 19 = .ok (.goto 4, 3) := by decide +kernel
theorem dX6_y_22 : decode cX6_y 22 = .ok (.iconst 0, 1) := by decide +kernel
theorem dX6_y_23 : decode cX6_y 23 = .ok (.ireturn, 1) := by decide +kernel
set_option maxRecDepth 20000 in
theorem ggX6_side_X6_isPoint : GoodIn wsX6_side wsX6_isPoint := goodIn_r _ [5] (by decide +kernel) (by decide +kernel)
set_option maxRecDepth 20000 in
theorem gX6_side_X6_isPoint : GoodIn wsX6_side (va_wsS RX6 42 yX6_isPoint wsX6_isPoint) := goodIn_app (goodIn_of _ (by decide +kernel)) ggX6_side_X6_isPoint
set_option maxRecDepth 20000 in
theorem ggX6_side_X1_unit : GoodIn wsX6_side wsX1_unit := goodIn_r _ [9, 10, 11, 12, 13, 8, 14, 15] (by decide +kernel) (by decide +kernel)
set_option maxRecDepth 20000 in
theorem gX6_side_X1_unit : GoodIn wsX6_side (va_wsS RX6 139 yX1_unit wsX1_unit) := goodIn_app (goodIn_of _ (by decide +kernel)) ggX6_side_X1_unit
theorem dX6_side_0 : decode cX6_side 0 = .ok (.iload_n 1, 1) := by decide +kernel
theorem dX6_side_1 : decode cX6_side 1 = .ok (.invokestatic 42, 3) := by decide +kernel
theorem dX6_side_4 : decode cX6_side 4 = .ok (.ifCond .eq 18, 3) := by decide +kernel
theorem dX6_side_7 : decode cX6_side 7 = .ok (.aload_n 0, 1) := by decide +kernel
theorem dX6_side_8 : decode cX6_side 8 = .ok (.getfield 12, 3) := by decide +kernel
theorem dX6_side_11 : decode cX6_side 11 = .ok (.getfield 76, 3) := by decide +kernel
theorem dX6_side_14 : decode cX6_side 14 = .ok (.iload_n 1, 1) := by decide +kernel
theorem dX6_side_15 : decode cX6_side 15 = .ok (.laload, 1) := by decide +kernel
theorem dX6_side_16 : decode cX6_side 16 = .ok (.invokestatic 139, 3) := by decide +kernel
theorem dX6_side_19 : decode cX6_side 19 = .ok (.goto 4, 3) := by decide +kernel
theorem dX6_side_22 : decode cX6_side 22 = .ok (.lconst 0, 1) := by decide +kernel
theorem dX6_side_23 : decode cX6_side 23 = .ok (.lreturn, 1) := by decide +kernel
set_option maxRecDepth 20000 in
theorem ggX6_lift_X6_isPoint : GoodIn wsX6_lift wsX6_isPoint := goodIn_r _ [5] (by decide +kernel) (by decide +kernel)
set_option maxRecDepth 20000 in
theorem gX6_lift_X6_isPoint : GoodIn wsX6_lift (va_wsS RX6 42 yX6_isPoint wsX6_isPoint) := goodIn_app (goodIn_of _ (by decide +kernel)) ggX6_lift_X6_isPoint
set_option maxRecDepth 20000 in
theorem ggX6_lift_X1_unit : GoodIn wsX6_lift wsX1_unit := goodIn_r _ [9, 10, 11, 12, 13, 8, 14, 15] (by decide +kernel) (by decide +kernel)
set_option maxRecDepth 20000 in
theorem gX6_lift_X1_unit : GoodIn wsX6_lift (va_wsS RX6 139 yX1_unit wsX1_unit) := goodIn_app (goodIn_of _ (by decide +kernel)) ggX6_lift_X1_unit
set_option maxRecDepth 20000 in
theorem ggX6_lift_X3_narrowed : GoodIn wsX6_lift wsX3_narrowed := goodIn_r _ [19, 20, 21, 22, 23, 24, 25, 26, 8, 27, 10, 28, 29, 30, 31, 32, 33, 34, 35, 36, 37, 38, 39, 40, 41, 42, 43, 44, 45, 46, 47, 48, 49, 50, 51, 52, 53, 54] (by decide +kernel) (by decide +kernel)
set_option maxRecDepth 20000 in
theorem gX6_lift_X3_narrowed : GoodIn wsX6_lift (va_wsS RX6 136 yX3_narrowed wsX3_narrowed) := goodIn_app (goodIn_of _ (by decide +kernel)) ggX6_lift_X3_narrowed
theorem dX6_lift_0 : decode cX6_lift 0 = .ok (.iload_n 1, 1) := by decide +kernel
theorem dX6_lift_1 : decode cX6_lift 1 = .ok (.invokestatic 42, 3) := by decide +kernel
theorem dX6_lift_4 : decode cX6_lift 4 = .ok (.ifCond .eq 21, 3) := by decide +kernel
theorem dX6_lift_7 : decode cX6_lift 7 = .ok (.aload_n 0, 1) := by decide +kernel
theorem dX6_lift_8 : decode cX6_lift 8 = .ok (.getfield 18, 3) := by decide +kernel
theorem dX6_lift_11 : decode cX6_lift 11 = .ok (.getfield 76, 3) := by decide +kernel
theorem dX6_lift_14 : decode cX6_lift 14 = .ok (.iload_n 1, 1) := by decide +kernel
theorem dX6_lift_15 : decode cX6_lift 15 = .ok (.laload, 1) := by decide +kernel
theorem dX6_lift_16 : decode cX6_lift 16 = .ok (.invokestatic 139, 3) := by decide +kernel
theorem dX6_lift_19 : decode cX6_lift 19 = .ok (.invokestatic 136, 3) := by decide +kernel
theorem dX6_lift_22 : decode cX6_lift 22 = .ok (.goto 4, 3) := by decide +kernel
theorem dX6_lift_25 : decode cX6_lift 25 = .ok (.iconst 0, 1) := by decide +kernel
theorem dX6_lift_26 : decode cX6_lift 26 = .ok (.ireturn, 1) := by decide +kernel
set_option maxRecDepth 20000 in
theorem ggX6_far_X6_isPoint : GoodIn wsX6_far wsX6_isPoint := goodIn_r _ [4] (by decide +kernel) (by decide +kernel)
set_option maxRecDepth 20000 in
theorem gX6_far_X6_isPoint : GoodIn wsX6_far (va_wsS RX6 42 yX6_isPoint wsX6_isPoint) := goodIn_app (goodIn_of _ (by decide +kernel)) ggX6_far_X6_isPoint
set_option maxRecDepth 20000 in
theorem ggX6_far_X6_distance : GoodIn wsX6_far wsX6_distance := goodIn_r _ [8, 9, 10, 11, 12, 13, 14, 15, 16, 17, 18, 19, 20, 21, 22, 23, 24, 25, 26, 27, 28, 29, 30, 31, 32, 33, 34, 35, 36, 37, 38, 39, 40, 41, 42, 43, 44, 45, 46, 47, 48, 49, 50, 51, 62, 63, 64, 65, 66, 67, 68, 69, 70, 71, 72, 73] (by decide +kernel) (by decide +kernel)
set_option maxRecDepth 20000 in
theorem gX6_far_X6_distance : GoodIn wsX6_far (wsV RX6 142 RX6 yX6_distance wsX6_distance) := goodIn_app (goodIn_of _ (by decide +kernel)) ggX6_far_X6_distance
set_option maxRecDepth 20000 in
theorem ggX6_far_X1_ofSize : GoodIn wsX6_far wsX1_ofSize := goodIn_r _ [54, 30, 55, 31, 32, 33, 34, 35, 56, 57, 58, 39, 40, 41, 42, 43, 44, 45, 46, 47, 48, 49, 50, 51, 59, 60, 61, 36, 37, 38] (by decide +kernel) (by decide +kernel)
set_option maxRecDepth 20000 in
theorem gX6_far_X1_ofSize : GoodIn wsX6_far (va_wsS RX6 146 yX1_ofSize wsX1_ofSize) := goodIn_app (goodIn_of _ (by decide +kernel)) ggX6_far_X1_ofSize
theorem dX6_far_0 : decode cX6_far 0 = .ok (.iload_n 1, 1) := by decide +kernel
theorem dX6_far_1 : decode cX6_far 1 = .ok (.invokestatic 42, 3) := by decide +kernel
theorem dX6_far_4 : decode cX6_far 4 = .ok (.ifCond .eq 22, 3) := by decide +kernel
theorem dX6_far_7 : decode cX6_far 7 = .ok (.iload_n 2, 1) := by decide +kernel
theorem dX6_far_8 : decode cX6_far 8 = .ok (.invokestatic 42, 3) := by decide +kernel
theorem dX6_far_11 : decode cX6_far 11 = .ok (.ifCond .eq 15, 3) := by decide +kernel
theorem dX6_far_14 : decode cX6_far 14 = .ok (.aload_n 0, 1) := by decide +kernel
theorem dX6_far_15 : decode cX6_far 15 = .ok (.iload_n 1, 1) := by decide +kernel
theorem dX6_far_16 : decode cX6_far 16 = .ok (.iload_n 2, 1) := by decide +kernel
theorem dX6_far_17 : decode cX6_far 17 = .ok (.invokevirtual 142, 3) := by decide +kernel
theorem dX6_far_20 : decode cX6_far 20 = .ok (.invokestatic 146, 3) := by decide +kernel
theorem dX6_far_23 : decode cX6_far 23 = .ok (.goto 4, 3) := by decide +kernel
theorem dX6_far_26 : decode cX6_far 26 = .ok (.lconst 0, 1) := by decide +kernel
theorem dX6_far_27 : decode cX6_far 27 = .ok (.lreturn, 1) := by decide +kernel
set_option maxRecDepth 20000 in
theorem ggX6_cell_X6_isPoint : GoodIn wsX6_cell wsX6_isPoint := goodIn_r _ [5] (by decide +kernel) (by decide +kernel)
set_option maxRecDepth 20000 in
theorem gX6_cell_X6_isPoint : GoodIn wsX6_cell (va_wsS RX6 42 yX6_isPoint wsX6_isPoint) := goodIn_app (goodIn_of _ (by decide +kernel)) ggX6_cell_X6_isPoint
set_option maxRecDepth 20000 in
theorem ggX6_cell_X6_cellAt : GoodIn wsX6_cell wsX6_cellAt := goodIn_r _ [9, 1, 10, 11, 12, 13, 14, 15, 16, 17, 18, 19, 20, 21, 22, 23, 24, 25, 26, 27, 28, 29, 30, 31, 32, 33, 34, 35, 36, 37, 38, 39, 40, 41, 42, 43, 44, 45, 46, 47, 48, 49, 50, 51, 52, 53, 54, 55, 56, 57, 58, 59, 60, 61, 62, 63, 64, 65, 66, 67, 68, 69, 70, 71, 72, 73, 74, 75, 76, 77, 78, 79, 80, 81, 82, 83, 84, 85, 86, 87, 88, 89, 90, 91, 92] (by decide +kernel) (by decide +kernel)
set_option maxRecDepth 20000 in
theorem gX6_cell_X6_cellAt : GoodIn wsX6_cell (wsV RX6 150 RX6 yX6_cellAt wsX6_cellAt) := goodIn_app (goodIn_of _ (by decide +kernel)) ggX6_cell_X6_cellAt
theorem dX6_cell_0 : decode cX6_cell 0 = .ok (.iload_n 1, 1) := by decide +kernel
theorem dX6_cell_1 : decode cX6_cell 1 = .ok (.invokestatic 42, 3) := by decide +kernel
theorem dX6_cell_4 : decode cX6_cell 4 = .ok (.ifCond .eq 19, 3) := by decide +kernel
theorem dX6_cell_7 : decode cX6_cell 7 = .ok (.aload_n 0, 1) := by decide +kernel
theorem dX6_cell_8 : decode cX6_cell 8 = .ok (.aload_n 0, 1) := by decide +kernel
theorem dX6_cell_9 : decode cX6_cell 9 = .ok (.getfield 12, 3) := by decide +kernel
theorem dX6_cell_12 : decode cX6_cell 12 = .ok (.getfield 76, 3) := by decide +kernel
theorem dX6_cell_15 : decode cX6_cell 15 = .ok (.iload_n 1, 1) := by decide +kernel
theorem dX6_cell_16 : decode cX6_cell 16 = .ok (.laload, 1) := by decide +kernel
theorem dX6_cell_17 : decode cX6_cell 17 = .ok (.invokevirtual 150, 3) := by decide +kernel
theorem dX6_cell_20 : decode cX6_cell 20 = .ok (.goto 4, 3) := by decide +kernel
theorem dX6_cell_23 : decode cX6_cell 23 = .ok (.iconst 0, 1) := by decide +kernel
theorem dX6_cell_24 : decode cX6_cell 24 = .ok (.ireturn, 1) := by decide +kernel
set_option maxRecDepth 20000 in
theorem ggX6_mark_X6_isPoint : GoodIn wsX6_mark wsX6_isPoint := goodIn_r _ [5] (by decide +kernel) (by decide +kernel)
set_option maxRecDepth 20000 in
theorem gX6_mark_X6_isPoint : GoodIn wsX6_mark (va_wsS RX6 42 yX6_isPoint wsX6_isPoint) := goodIn_app (goodIn_of _ (by decide +kernel)) ggX6_mark_X6_isPoint
set_option maxRecDepth 20000 in
theorem ggX6_mark_X6_markAt : GoodIn wsX6_mark wsX6_markAt := goodIn_r _ [9, 1, 10, 11, 12, 13, 14, 15, 16, 17, 18, 19, 20, 21, 22, 23, 24, 25, 26, 27, 28, 29, 30, 31, 32, 33, 34, 35, 36, 37, 38, 39, 40, 41, 42, 43, 44, 45, 46, 47, 48, 49, 50, 51, 52, 53, 54, 55, 56, 57, 58, 59, 60, 61, 62, 63, 64, 65, 66, 67, 68, 69, 70, 71, 72, 73, 74, 75, 76, 77, 78, 79, 80, 81, 82, 83, 84, 85, 86, 87, 88, 89, 90, 91, 92] (by decide +kernel) (by decide +kernel)
set_option maxRecDepth 20000 in
theorem gX6_mark_X6_markAt : GoodIn wsX6_mark (wsV RX6 153 RX6 yX6_markAt wsX6_markAt) := goodIn_app (goodIn_of _ (by decide +kernel)) ggX6_mark_X6_markAt
theorem dX6_mark_0 : decode cX6_mark 0 = .ok (.iload_n 1, 1) := by decide +kernel
theorem dX6_mark_1 : decode cX6_mark 1 = .ok (.invokestatic 42, 3) := by decide +kernel
theorem dX6_mark_4 : decode cX6_mark 4 = .ok (.ifCond .eq 19, 3) := by decide +kernel
theorem dX6_mark_7 : decode cX6_mark 7 = .ok (.aload_n 0, 1) := by decide +kernel
theorem dX6_mark_8 : decode cX6_mark 8 = .ok (.aload_n 0, 1) := by decide +kernel
theorem dX6_mark_9 : decode cX6_mark 9 = .ok (.getfield 18, 3) := by decide +kernel
theorem dX6_mark_12 : decode cX6_mark 12 = .ok (.getfield 76, 3) := by decide +kernel
theorem dX6_mark_15 : decode cX6_mark 15 = .ok (.iload_n 1, 1) := by decide +kernel
theorem dX6_mark_16 : decode cX6_mark 16 = .ok (.laload, 1) := by decide +kernel
theorem dX6_mark_17 : decode cX6_mark 17 = .ok (.invokevirtual 153, 3) := by decide +kernel
theorem dX6_mark_20 : decode cX6_mark 20 = .ok (.goto 4, 3) := by decide +kernel
theorem dX6_mark_23 : decode cX6_mark 23 = .ok (.lconst 0, 1) := by decide +kernel
theorem dX6_mark_24 : decode cX6_mark 24 = .ok (.lreturn, 1) := by decide +kernel
set_option maxRecDepth 20000 in
theorem ggX6_gap_X6_isPoint : GoodIn wsX6_gap wsX6_isPoint := goodIn_r _ [9] (by decide +kernel) (by decide +kernel)
set_option maxRecDepth 20000 in
theorem gX6_gap_X6_isPoint : GoodIn wsX6_gap (va_wsS RX6 42 yX6_isPoint wsX6_isPoint) := goodIn_app (goodIn_of _ (by decide +kernel)) ggX6_gap_X6_isPoint
set_option maxRecDepth 20000 in
theorem ggX6_gap_X6_cellAt : GoodIn wsX6_gap wsX6_cellAt := goodIn_r _ [13, 1, 14, 15, 16, 17, 18, 19, 20, 21, 22, 23, 24, 25, 26, 27, 28, 29, 30, 31, 32, 33, 34, 35, 36, 37, 38, 39, 40, 41, 42, 43, 44, 45, 46, 47, 48, 49, 50, 51, 52, 53, 54, 55, 56, 57, 58, 59, 60, 61, 62, 63, 64, 65, 66, 67, 68, 69, 70, 71, 72, 73, 74, 75, 76, 77, 78, 79, 80, 81, 82, 83, 84, 85, 86, 87, 88, 89, 90, 91, 92, 93, 94, 95, 96] (by decide +kernel) (by decide +kernel)
set_option maxRecDepth 20000 in
theorem gX6_gap_X6_cellAt : GoodIn wsX6_gap (wsV RX6 150 RX6 yX6_cellAt wsX6_cellAt) := goodIn_app (goodIn_of _ (by decide +kernel)) ggX6_gap_X6_cellAt
theorem dX6_gap_0 : decode cX6_gap 0 = .ok (.iload_n 1, 1) := by decide +kernel
theorem dX6_gap_1 : decode cX6_gap 1 = .ok (.invokestatic 42, 3) := by decide +kernel
theorem dX6_gap_4 : decode cX6_gap 4 = .ok (.ifCond .eq 43, 3) := by decide +kernel
theorem dX6_gap_7 : decode cX6_gap 7 = .ok (.iload_n 2, 1) := by decide +kernel
theorem dX6_gap_8 : decode cX6_gap 8 = .ok (.invokestatic 42, 3) := by decide +kernel
theorem dX6_gap_11 : decode cX6_gap 11 = .ok (.ifCond .eq 36, 3) := by decide +kernel
theorem dX6_gap_14 : decode cX6_gap 14 = .ok (.aload_n 0, 1) := by decide +kernel
theorem dX6_gap_15 : decode cX6_gap 15 = .ok (.aload_n 0, 1) := by decide +kernel
theorem dX6_gap_16 : decode cX6_gap 16 = .ok (.getfield 12, 3) := by decide +kernel
theorem dX6_gap_19 : decode cX6_gap 19 = .ok (.getfield 76, 3) := by decide +kernel
theorem dX6_gap_22 : decode cX6_gap 22 = .ok (.iload_n 1, 1) := by decide +kernel
theorem dX6_gap_23 : decode cX6_gap 23 = .ok (.laload, 1) := by decide +kernel
theorem dX6_gap_24 : decode cX6_gap 24 = .ok (.invokevirtual 150, 3) := by decide +kernel
theorem dX6_gap_27 : decode cX6_gap 27 = .ok (.aload_n 0, 1) := by decide +kernel
theorem dX6_gap_28 : decode cX6_gap 28 = .ok (.aload_n 0, 1) := by decide +kernel
theorem dX6_gap_29 : decode cX6_gap 29 = .ok (.getfield 12, 3) := by decide +kernel
theorem dX6_gap_32 : decode cX6_gap 32 = .ok (.getfield 76, 3) := by decide +kernel
theorem dX6_gap_35 : decode cX6_gap 35 = .ok (.iload_n 2, 1) := by decide +kernel
theorem dX6_gap_36 : decode cX6_gap 36 = .ok (.laload, 1) := by decide +kernel
theorem dX6_gap_37 : decode cX6_gap 37 = .ok (.invokevirtual 150, 3) := by decide +kernel
theorem dX6_gap_40 : decode cX6_gap 40 = .ok (.isub, 1) := by decide +kernel
theorem dX6_gap_41 : decode cX6_gap 41 = .ok (.invokestatic 156, 3) := by decide +kernel
theorem dX6_gap_44 : decode cX6_gap 44 = .ok (.goto 4, 3) := by decide +kernel
theorem dX6_gap_47 : decode cX6_gap 47 = .ok (.iconst 0, 1) := by decide +kernel
theorem dX6_gap_48 : decode cX6_gap 48 = .ok (.ireturn, 1) := by decide +kernel
set_option maxRecDepth 20000 in
theorem ggX6_rise_X6_isPoint : GoodIn wsX6_rise wsX6_isPoint := goodIn_r _ [9] (by decide +kernel) (by decide +kernel)
set_option maxRecDepth 20000 in
theorem gX6_rise_X6_isPoint : GoodIn wsX6_rise (va_wsS RX6 42 yX6_isPoint wsX6_isPoint) := goodIn_app (goodIn_of _ (by decide +kernel)) ggX6_rise_X6_isPoint
set_option maxRecDepth 20000 in
theorem ggX6_rise_X6_markAt : GoodIn wsX6_rise wsX6_markAt := goodIn_r _ [13, 1, 14, 15, 16, 17, 18, 19, 20, 21, 22, 23, 24, 25, 26, 27, 28, 29, 30, 31, 32, 33, 34, 35, 36, 37, 38, 39, 40, 41, 42, 43, 44, 45, 46, 47, 48, 49, 50, 51, 52, 53, 54, 55, 56, 57, 58, 59, 60, 61, 62, 63, 64, 65, 66, 67, 68, 69, 70, 71, 72, 73, 74, 75, 76, 77, 78, 79, 80, 81, 82, 83, 84, 85, 86, 87, 88, 89, 90, 91, 92, 93, 94, 95, 96] (by decide +kernel) (by decide +kernel)
set_option maxRecDepth 20000 in
theorem gX6_rise_X6_markAt : GoodIn wsX6_rise (wsV RX6 153 RX6 yX6_markAt wsX6_markAt) := goodIn_app (goodIn_of _ (by decide +kernel)) ggX6_rise_X6_markAt
theorem dX6_rise_0 : decode cX6_rise 0 = .ok (.iload_n 1, 1) := by decide +kernel
theorem dX6_rise_1 : decode cX6_rise 1 = .ok (.invokestatic 42, 3) := by decide +kernel
theorem dX6_rise_4 : decode cX6_rise 4 = .ok (.ifCond .eq 43, 3) := by decide +kernel
theorem dX6_rise_7 : decode cX6_rise 7 = .ok (.iload_n 2, 1) := by decide +kernel
theorem dX6_rise_8 : decode cX6_rise 8 = .ok (.invokestatic 42, 3) := by decide +kernel
theorem dX6_rise_11 : decode cX6_rise 11 = .ok (.ifCond .eq 36, 3) := by decide +kernel
theorem dX6_rise_14 : decode cX6_rise 14 = .ok (.aload_n 0, 1) := by decide +kernel
theorem dX6_rise_15 : decode cX6_rise 15 = .ok (.aload_n 0, 1) := by decide +kernel
theorem dX6_rise_16 : decode cX6_rise 16 = .ok (.getfield 18, 3) := by decide +kernel
theorem dX6_rise_19 : decode cX6_rise 19 = .ok (.getfield 76, 3) := by decide +kernel
theorem dX6_rise_22 : decode cX6_rise 22 = .ok (.iload_n 1, 1) := by decide +kernel
theorem dX6_rise_23 : decode cX6_rise 23 = .ok (.laload, 1) := by decide +kernel
theorem dX6_rise_24 : decode cX6_rise 24 = .ok (.invokevirtual 153, 3) := by decide +kernel
theorem dX6_rise_27 : decode cX6_rise 27 = .ok (.aload_n 0, 1) := by decide +kernel
theorem dX6_rise_28 : decode cX6_rise 28 = .ok (.aload_n 0, 1) := by decide +kernel
theorem dX6_rise_29 : decode cX6_rise 29 = .ok (.getfield 18, 3) := by decide +kernel
theorem dX6_rise_32 : decode cX6_rise 32 = .ok (.getfield 76, 3) := by decide +kernel
theorem dX6_rise_35 : decode cX6_rise 35 = .ok (.iload_n 2, 1) := by decide +kernel
theorem dX6_rise_36 : decode cX6_rise 36 = .ok (.laload, 1) := by decide +kernel
theorem dX6_rise_37 : decode cX6_rise 37 = .ok (.invokevirtual 153, 3) := by decide +kernel
theorem dX6_rise_40 : decode cX6_rise 40 = .ok (.lsub, 1) := by decide +kernel
theorem dX6_rise_41 : decode cX6_rise 41 = .ok (.invokestatic 161, 3) := by decide +kernel
theorem dX6_rise_44 : decode cX6_rise 44 = .ok (.goto 4, 3) := by decide +kernel
theorem dX6_rise_47 : decode cX6_rise 47 = .ok (.lconst 0, 1) := by decide +kernel
theorem dX6_rise_48 : decode cX6_rise 48 = .ok (.lreturn, 1) := by decide +kernel
set_option maxRecDepth 20000 in
theorem ggX6_edge_X6_isEnd : GoodIn wsX6_edge wsX6_isEnd := goodIn_r _ [5] (by decide +kernel) (by decide +kernel)
set_option maxRecDepth 20000 in
theorem gX6_edge_X6_isEnd : GoodIn wsX6_edge (va_wsS RX6 95 yX6_isEnd wsX6_isEnd) := goodIn_app (goodIn_of _ (by decide +kernel)) ggX6_edge_X6_isEnd
set_option maxRecDepth 20000 in
theorem ggX6_edge_X0_outermost : GoodIn wsX6_edge wsX0_outermost := goodIn_r _ [10, 11, 12, 13, 14, 15, 16, 17, 18, 19, 20, 21, 22, 23, 24, 25, 33, 34, 35, 36, 37] (by decide +kernel) (by decide +kernel)
set_option maxRecDepth 20000 in
theorem gX6_edge_X0_outermost : GoodIn wsX6_edge (wsV RX6 163 RX0 yX0_outermost wsX0_outermost) := goodIn_app (goodIn_of _ (by decide +kernel)) ggX6_edge_X0_outermost
theorem dX6_edge_0 : decode cX6_edge 0 = .ok (.iload_n 1, 1) := by decide +kernel
theorem dX6_edge_1 : decode cX6_edge 1 = .ok (.invokestatic 95, 3) := by decide +kernel
theorem dX6_edge_4 : decode cX6_edge 4 = .ok (.ifCond .eq 14, 3) := by decide +kernel
theorem dX6_edge_7 : decode cX6_edge 7 = .ok (.aload_n 0, 1) := by decide +kernel
theorem dX6_edge_8 : decode cX6_edge 8 = .ok (.getfield 12, 3) := by decide +kernel
theorem dX6_edge_11 : decode cX6_edge 11 = .ok (.iload_n 1, 1) := by decide +kernel
theorem dX6_edge_12 : decode cX6_edge 12 = .ok (.invokevirtual 163, 3) := by decide +kernel
theorem dX6_edge_15 : decode cX6_edge 15 = .ok (.goto 4, 3) := by decide +kernel
theorem dX6_edge_18 : decode cX6_edge 18 = .ok (.lconst 0, 1) := by decide +kernel
theorem dX6_edge_19 : decode cX6_edge 19 = .ok (.lreturn, 1) := by decide +kernel
set_option maxRecDepth 20000 in
theorem ggX6_rim_X6_isEnd : GoodIn wsX6_rim wsX6_isEnd := goodIn_r _ [5] (by decide +kernel) (by decide +kernel)
set_option maxRecDepth 20000 in
theorem gX6_rim_X6_isEnd : GoodIn wsX6_rim (va_wsS RX6 95 yX6_isEnd wsX6_isEnd) := goodIn_app (goodIn_of _ (by decide +kernel)) ggX6_rim_X6_isEnd
set_option maxRecDepth 20000 in
theorem ggX6_rim_X0_outermost : GoodIn wsX6_rim wsX0_outermost := goodIn_r _ [10, 11, 12, 13, 14, 15, 16, 17, 18, 19, 20, 21, 22, 23, 24, 25, 72, 73, 74, 75, 76] (by decide +kernel) (by decide +kernel)
set_option maxRecDepth 20000 in
theorem gX6_rim_X0_outermost : GoodIn wsX6_rim (wsV RX6 163 RX0 yX0_outermost wsX0_outermost) := goodIn_app (goodIn_of _ (by decide +kernel)) ggX6_rim_X0_outermost
set_option maxRecDepth 20000 in
theorem ggX6_rim_X3_narrowed : GoodIn wsX6_rim wsX3_narrowed := goodIn_r _ [29, 30, 31, 32, 33, 34, 35, 36, 14, 37, 22, 38, 39, 40, 41, 42, 43, 44, 45, 46, 47, 48, 49, 50, 51, 52, 53, 54, 55, 56, 57, 58, 59, 60, 61, 62, 63, 64] (by decide +kernel) (by decide +kernel)
set_option maxRecDepth 20000 in
theorem gX6_rim_X3_narrowed : GoodIn wsX6_rim (va_wsS RX6 136 yX3_narrowed wsX3_narrowed) := goodIn_app (goodIn_of _ (by decide +kernel)) ggX6_rim_X3_narrowed
theorem dX6_rim_0 : decode cX6_rim 0 = .ok (.iload_n 1, 1) := by decide +kernel
theorem dX6_rim_1 : decode cX6_rim 1 = .ok (.invokestatic 95, 3) := by decide +kernel
theorem dX6_rim_4 : decode cX6_rim 4 = .ok (.ifCond .eq 17, 3) := by decide +kernel
theorem dX6_rim_7 : decode cX6_rim 7 = .ok (.aload_n 0, 1) := by decide +kernel
theorem dX6_rim_8 : decode cX6_rim 8 = .ok (.getfield 18, 3) := by decide +kernel
theorem dX6_rim_11 : decode cX6_rim 11 = .ok (.iload_n 1, 1) := by decide +kernel
theorem dX6_rim_12 : decode cX6_rim 12 = .ok (.invokevirtual 163, 3) := by decide +kernel
theorem dX6_rim_15 : decode cX6_rim 15 = .ok (.invokestatic 136, 3) := by decide +kernel
theorem dX6_rim_18 : decode cX6_rim 18 = .ok (.goto 4, 3) := by decide +kernel
theorem dX6_rim_21 : decode cX6_rim 21 = .ok (.iconst 0, 1) := by decide +kernel
theorem dX6_rim_22 : decode cX6_rim 22 = .ok (.ireturn, 1) := by decide +kernel
set_option maxRecDepth 20000 in
theorem ggX6_neighbour_X6_isPoint : GoodIn wsX6_neighbour wsX6_isPoint := goodIn_r _ [4] (by decide +kernel) (by decide +kernel)
set_option maxRecDepth 20000 in
theorem gX6_neighbour_X6_isPoint : GoodIn wsX6_neighbour (va_wsS RX6 42 yX6_isPoint wsX6_isPoint) := goodIn_app (goodIn_of _ (by decide +kernel)) ggX6_neighbour_X6_isPoint
set_option maxRecDepth 20000 in
theorem ggX6_neighbour_X6_distance : GoodIn wsX6_neighbour wsX6_distance := goodIn_r _ [8, 9, 10, 11, 12, 13, 14, 15, 16, 17, 18, 19, 20, 21, 22, 23, 24, 25, 26, 27, 28, 29, 30, 31, 32, 33, 34, 35, 36, 37, 38, 39, 40, 41, 42, 43, 44, 45, 46, 47, 48, 49, 50, 51, 52, 53, 54, 55, 56, 57, 58, 59, 60, 61, 62, 63] (by decide +kernel) (by decide +kernel)
set_option maxRecDepth 20000 in
theorem gX6_neighbour_X6_distance : GoodIn wsX6_neighbour (wsV RX6 142 RX6 yX6_distance wsX6_distance) := goodIn_app (goodIn_of _ (by decide +kernel)) ggX6_neighbour_X6_distance
theorem dX6_neighbour_0 : decode cX6_neighbour 0 = .ok (.iload_n 1, 1) := by decide +kernel
theorem dX6_neighbour_1 : decode cX6_neighbour 1 = .ok (.invokestatic 42, 3) := by decide +kernel
theorem dX6_neighbour_4 : decode cX6_neighbour 4 = .ok (.ifCond .ne 5, 3) := by decide +kernel
theorem dX6_neighbour_7 : decode cX6_neighbour 7 = .ok (.iconst (-1), 1) := by decide +kernel
theorem dX6_neighbour_8 : decode cX6_neighbour 8 = .ok (.ireturn, 1) := by decide +kernel
theorem dX6_neighbour_9 : decode cX6_neighbour 9 = .ok (.iconst (-1), 1) := by decide +kernel
theorem dX6_neighbour_10 : decode cX6_neighbour 10 = .ok (.istore_n 2, 1) := by decide +kernel
theorem dX6_neighbour_11 : decode cX6_neighbour 11 = .ok (.dconst 0, 1) := by decide +kernel
theorem dX6_neighbour_12 : decode cX6_neighbour 12 = .ok (.dstore_n 3, 1) := by decide +kernel
theorem dX6_neighbour_13 : decode cX6_neighbour 13 = .ok (.iconst 0, 1) := by decide +kernel
theorem dX6_neighbour_14 : decode cX6_neighbour 14 = .ok (.istore 5, 2) := by decide +kernel
theorem dX6_neighbour_16 : decode cX6_neighbour 16 = .ok (.iload 5, 2) := by decide +kernel
theorem dX6_neighbour_18 : decode cX6_neighbour 18 = .ok (.bipush 8, 2) := by decide +kernel
theorem dX6_neighbour_20 : decode cX6_neighbour 20 = .ok (.if_icmp .ge 42, 3) := by decide +kernel
theorem dX6_neighbour_23 : decode cX6_neighbour 23 = .ok (.iload 5, 2) := by decide +kernel
theorem dX6_neighbour_25 : decode cX6_neighbour 25 = .ok (.iload_n 1, 1) := by decide +kernel
theorem dX6_neighbour_26 : decode cX6_neighbour 26 = .ok (.if_icmp .eq 30, 3) := by decide +kernel
theorem dX6_neighbour_29 : decode cX6_neighbour 29 = .ok (.aload_n 0, 1) := by decide +kernel
theorem dX6_neighbour_30 : decode cX6_neighbour 30 = .ok (.iload_n 1, 1) := by decide +kernel
theorem dX6_neighbour_31 : decode cX6_neighbour 31 = .ok (.iload 5, 2) := by decide +kernel
theorem dX6_neighbour_33 : decode cX6_neighbour 33 = .ok (.invokevirtual 142, 3) := by decide +kernel
theorem dX6_neighbour_36 : decode cX6_neighbour 36 = .ok (.dstore 6, 2) := by decide +kernel
theorem dX6_neighbour_38 : decode cX6_neighbour 38 = .ok (.iload_n 2, 1) := by decide +kernel
theorem dX6_neighbour_39 : decode cX6_neighbour 39 = .ok (.iconst (-1), 1) := by decide +kernel
theorem dX6_neighbour_40 : decode cX6_neighbour 40 = .ok (.if_icmp .eq 10, 3) := by decide +kernel
theorem dX6_neighbour_43 : decode cX6_neighbour 43 = .ok (.dload 6, 2) := by decide +kernel
theorem dX6_neighbour_45 : decode cX6_neighbour 45 = .ok (.dload_n 3, 1) := by decide +kernel
theorem dX6_neighbour_46 : decode cX6_neighbour 46 = .ok (.dcmp .g, 1) := by decide +kernel
theorem dX6_neighbour_47 : decode cX6_neighbour 47 = .ok (.ifCond .ge 9, 3) := by decide +kernel
theorem dX6_neighbour_50 : decode cX6_neighbour 50 = .ok (.iload 5, 2) := by decide +kernel
theorem dX6_neighbour_52 : decode cX6_neighbour 52 = .ok (.istore_n 2, 1) := by decide +kernel
theorem dX6_neighbour_53 : decode cX6_neighbour 53 = .ok (.dload 6, 2) := by decide +kernel
theorem dX6_neighbour_55 : decode cX6_neighbour 55 = .ok (.dstore_n 3, 1) := by decide +kernel
theorem dX6_neighbour_56 : decode cX6_neighbour 56 = .ok (.iinc 5 1, 3) := by decide +kernel
theorem dX6_neighbour_59 : decode cX6_neighbour 59 = .ok (.goto (-43), 3) := by decide +kernel
theorem dX6_neighbour_62 : decode cX6_neighbour 62 = .ok (.iload_n 2, 1) := by decide +kernel
theorem dX6_neighbour_63 : decode cX6_neighbour 63 = .ok (.ireturn, 1) := by decide +kernel
set_option maxRecDepth 20000 in
theorem ggX6_column_X6_isEnd : GoodIn wsX6_column wsX6_isEnd := goodIn_r _ [5] (by decide +kernel) (by decide +kernel)
set_option maxRecDepth 20000 in
theorem gX6_column_X6_isEnd : GoodIn wsX6_column (va_wsS RX6 95 yX6_isEnd wsX6_isEnd) := goodIn_app (goodIn_of _ (by decide +kernel)) ggX6_column_X6_isEnd
set_option maxRecDepth 20000 in
theorem ggX6_column_X0_outermost : GoodIn wsX6_column wsX0_outermost := goodIn_r _ [10, 11, 12, 13, 14, 15, 16, 17, 18, 19, 20, 21, 22, 23, 24, 25, 105, 106, 107, 108, 109] (by decide +kernel) (by decide +kernel)
set_option maxRecDepth 20000 in
theorem gX6_column_X0_outermost : GoodIn wsX6_column (wsV RX6 163 RX0 yX0_outermost wsX0_outermost) := goodIn_app (goodIn_of _ (by decide +kernel)) ggX6_column_X0_outermost
set_option maxRecDepth 20000 in
theorem ggX6_column_X6_cellAt : GoodIn wsX6_column wsX6_cellAt := goodIn_r _ [29, 1, 30, 31, 32, 9, 33, 34, 35, 36, 37, 14, 38, 22, 39, 40, 41, 42, 43, 44, 45, 46, 47, 48, 49, 50, 51, 52, 53, 54, 55, 56, 57, 58, 59, 60, 61, 62, 63, 64, 65, 66, 67, 68, 69, 70, 71, 72, 73, 74, 75, 76, 77, 78, 79, 80, 81, 82, 83, 84, 85, 86, 87, 88, 89, 90, 91, 92, 93, 94, 95, 96, 97, 98, 99, 100, 101, 102, 103, 104, 105, 106, 107, 108, 109] (by decide +kernel) (by decide +kernel)
set_option maxRecDepth 20000 in
theorem gX6_column_X6_cellAt : GoodIn wsX6_column (wsV RX6 150 RX6 yX6_cellAt wsX6_cellAt) := goodIn_app (goodIn_of _ (by decide +kernel)) ggX6_column_X6_cellAt
theorem dX6_column_0 : decode cX6_column 0 = .ok (.iload_n 1, 1) := by decide +kernel
theorem dX6_column_1 : decode cX6_column 1 = .ok (.invokestatic 95, 3) := by decide +kernel
theorem dX6_column_4 : decode cX6_column 4 = .ok (.ifCond .eq 18, 3) := by decide +kernel
theorem dX6_column_7 : decode cX6_column 7 = .ok (.aload_n 0, 1) := by decide +kernel
theorem dX6_column_8 : decode cX6_column 8 = .ok (.aload_n 0, 1) := by decide +kernel
theorem dX6_column_9 : decode cX6_column 9 = .ok (.getfield 12, 3) := by decide +kernel
theorem dX6_column_12 : decode cX6_column 12 = .ok (.iload_n 1, 1) := by decide +kernel
theorem dX6_column_13 : decode cX6_column 13 = .ok (.invokevirtual 163, 3) := by decide +kernel
theorem dX6_column_16 : decode cX6_column 16 = .ok (.invokevirtual 150, 3) := by decide +kernel
theorem dX6_column_19 : decode cX6_column 19 = .ok (.goto 4, 3) := by decide +kernel
theorem dX6_column_22 : decode cX6_column 22 = .ok (.iconst 0, 1) := by decide +kernel
theorem dX6_column_23 : decode cX6_column 23 = .ok (.ireturn, 1) := by decide +kernel
set_option maxRecDepth 20000 in
theorem ggX6_row_X6_isEnd : GoodIn wsX6_row wsX6_isEnd := goodIn_r _ [5] (by decide +kernel) (by decide +kernel)
set_option maxRecDepth 20000 in
theorem gX6_row_X6_isEnd : GoodIn wsX6_row (va_wsS RX6 95 yX6_isEnd wsX6_isEnd) := goodIn_app (goodIn_of _ (by decide +kernel)) ggX6_row_X6_isEnd
set_option maxRecDepth 20000 in
theorem ggX6_row_X0_outermost : GoodIn wsX6_row wsX0_outermost := goodIn_r _ [10, 11, 12, 13, 14, 15, 16, 17, 18, 19, 20, 21, 22, 23, 24, 25, 105, 106, 107, 108, 109] (by decide +kernel) (by decide +kernel)
set_option maxRecDepth 20000 in
theorem gX6_row_X0_outermost : GoodIn wsX6_row (wsV RX6 163 RX0 yX0_outermost wsX0_outermost) := goodIn_app (goodIn_of _ (by decide +kernel)) ggX6_row_X0_outermost
set_option maxRecDepth 20000 in
theorem ggX6_row_X6_markAt : GoodIn wsX6_row wsX6_markAt := goodIn_r _ [29, 1, 30, 31, 32, 9, 33, 34, 35, 36, 37, 14, 38, 22, 39, 40, 41, 42, 43, 44, 45, 46, 47, 48, 49, 50, 51, 52, 53, 54, 55, 56, 57, 58, 59, 60, 61, 62, 63, 64, 65, 66, 67, 68, 69, 70, 71, 72, 73, 74, 75, 76, 77, 78, 79, 80, 81, 82, 83, 84, 85, 86, 87, 88, 89, 90, 91, 92, 93, 94, 95, 96, 97, 98, 99, 100, 101, 102, 103, 104, 105, 106, 107, 108, 109] (by decide +kernel) (by decide +kernel)
set_option maxRecDepth 20000 in
theorem gX6_row_X6_markAt : GoodIn wsX6_row (wsV RX6 153 RX6 yX6_markAt wsX6_markAt) := goodIn_app (goodIn_of _ (by decide +kernel)) ggX6_row_X6_markAt
theorem dX6_row_0 : decode cX6_row 0 = .ok (.iload_n 1, 1) := by decide +kernel
theorem dX6_row_1 : decode cX6_row 1 = .ok (.invokestatic 95, 3) := by decide +kernel
theorem dX6_row_4 : decode cX6_row 4 = .ok (.ifCond .eq 18, 3) := by decide +kernel
theorem dX6_row_7 : decode cX6_row 7 = .ok (.aload_n 0, 1) := by decide +kernel
theorem dX6_row_8 : decode cX6_row 8 = .ok (.aload_n 0, 1) := by decide +kernel
theorem dX6_row_9 : decode cX6_row 9 = .ok (.getfield 18, 3) := by decide +kernel
theorem dX6_row_12 : decode cX6_row 12 = .ok (.iload_n 1, 1) := by decide +kernel
theorem dX6_row_13 : decode cX6_row 13 = .ok (.invokevirtual 163, 3) := by decide +kernel
theorem dX6_row_16 : decode cX6_row 16 = .ok (.invokevirtual 153, 3) := by decide +kernel
theorem dX6_row_19 : decode cX6_row 19 = .ok (.goto 4, 3) := by decide +kernel
theorem dX6_row_22 : decode cX6_row 22 = .ok (.lconst 0, 1) := by decide +kernel
theorem dX6_row_23 : decode cX6_row 23 = .ok (.lreturn, 1) := by decide +kernel
theorem dX6_count_0 : decode cX6_count 0 = .ok (.iload_n 1, 1) := by decide +kernel
theorem dX6_count_1 : decode cX6_count 1 = .ok (.tableswitch 54 0 3 #[31, 36, 41, 46], 31) := by decide +kernel
theorem dX6_count_32 : decode cX6_count 32 = .ok (.aload_n 0, 1) := by decide +kernel
theorem dX6_count_33 : decode cX6_count 33 = .ok (.getfield 166, 3) := by decide +kernel
theorem dX6_count_36 : decode cX6_count 36 = .ok (.ireturn, 1) := by decide +kernel
theorem dX6_count_37 : decode cX6_count 37 = .ok (.aload_n 0, 1) := by decide +kernel
theorem dX6_count_38 : decode cX6_count 38 = .ok (.getfield 169, 3) := by decide +kernel
theorem dX6_count_41 : decode cX6_count 41 = .ok (.ireturn, 1) := by decide +kernel
theorem dX6_count_42 : decode cX6_count 42 = .ok (.aload_n 0, 1) := by decide +kernel
theorem dX6_count_43 : decode cX6_count 43 = .ok (.getfield 172, 3) := by decide +kernel
theorem dX6_count_46 : decode cX6_count 46 = .ok (.ireturn, 1) := by decide +kernel
theorem dX6_count_47 : decode cX6_count 47 = .ok (.aload_n 0, 1) := by decide +kernel
theorem dX6_count_48 : decode cX6_count 48 = .ok (.getfield 24, 3) := by decide +kernel
theorem dX6_count_51 : decode cX6_count 51 = .ok (.getfield 121, 3) := by decide +kernel
theorem dX6_count_54 : decode cX6_count 54 = .ok (.ireturn, 1) := by decide +kernel
theorem dX6_count_55 : decode cX6_count 55 = .ok (.iconst (-1), 1) := by decide +kernel
theorem dX6_count_56 : decode cX6_count 56 = .ok (.ireturn, 1) := by decide +kernel
theorem dX6_isPoint_0 : decode cX6_isPoint 0 = .ok (.iload_n 0, 1) := by decide +kernel
theorem dX6_isPoint_1 : decode cX6_isPoint 1 = .ok (.ifCond .lt 13, 3) := by decide +kernel
theorem dX6_isPoint_4 : decode cX6_isPoint 4 = .ok (.iload_n 0, 1) := by decide +kernel
theorem dX6_isPoint_5 : decode cX6_isPoint 5 = .ok (.bipush 8, 2) := by decide +kernel
theorem dX6_isPoint_7 : decode cX6_isPoint 7 = .ok (.if_icmp .ge 7, 3) := by decide +kernel
theorem dX6_isPoint_10 : decode cX6_isPoint 10 = .ok (.iconst 1, 1) := by decide +kernel
theorem dX6_isPoint_11 : decode cX6_isPoint 11 = .ok (.goto 4, 3) := by decide +kernel
theorem dX6_isPoint_14 : decode cX6_isPoint 14 = .ok (.iconst 0, 1) := by decide +kernel
theorem dX6_isPoint_15 : decode cX6_isPoint 15 = .ok (.ireturn, 1) := by decide +kernel
theorem dX6_isEnd_0 : decode cX6_isEnd 0 = .ok (.iload_n 0, 1) := by decide +kernel
theorem dX6_isEnd_1 : decode cX6_isEnd 1 = .ok (.ifCond .eq 8, 3) := by decide +kernel
theorem dX6_isEnd_4 : decode cX6_isEnd 4 = .ok (.iload_n 0, 1) := by decide +kernel
theorem dX6_isEnd_5 : decode cX6_isEnd 5 = .ok (.iconst 1, 1) := by decide +kernel
theorem dX6_isEnd_6 : decode cX6_isEnd 6 = .ok (.if_icmp .ne 7, 3) := by decide +kernel
theorem dX6_isEnd_9 : decode cX6_isEnd 9 = .ok (.iconst 1, 1) := by decide +kernel
theorem dX6_isEnd_10 : decode cX6_isEnd 10 = .ok (.goto 4, 3) := by decide +kernel
theorem dX6_isEnd_13 : decode cX6_isEnd 13 = .ok (.iconst 0, 1) := by decide +kernel
theorem dX6_isEnd_14 : decode cX6_isEnd 14 = .ok (.ireturn, 1) := by decide +kernel
theorem dX6_refuse_0 : decode cX6_refuse 0 = .ok (.aload_n 0, 1) := by decide +kernel
theorem dX6_refuse_1 : decode cX6_refuse 1 = .ok (.dup, 1) := by decide +kernel
theorem dX6_refuse_2 : decode cX6_refuse 2 = .ok (.getfield 169, 3) := by decide +kernel
theorem dX6_refuse_5 : decode cX6_refuse 5 = .ok (.iconst 1, 1) := by decide +kernel
theorem dX6_refuse_6 : decode cX6_refuse 6 = .ok (.iadd, 1) := by decide +kernel
theorem dX6_refuse_7 : decode cX6_refuse 7 = .ok (.putfield 169, 3) := by decide +kernel
theorem dX6_refuse_10 : decode cX6_refuse 10 = .ok (.iload_n 1, 1) := by decide +kernel
theorem dX6_refuse_11 : decode cX6_refuse 11 = .ok (.ireturn, 1) := by decide +kernel
theorem dX6_finish_0 : decode cX6_finish 0 = .ok (.aload_n 0, 1) := by decide +kernel
theorem dX6_finish_1 : decode cX6_finish 1 = .ok (.dup, 1) := by decide +kernel
theorem dX6_finish_2 : decode cX6_finish 2 = .ok (.getfield 166, 3) := by decide +kernel
theorem dX6_finish_5 : decode cX6_finish 5 = .ok (.iconst 1, 1) := by decide +kernel
theorem dX6_finish_6 : decode cX6_finish 6 = .ok (.iadd, 1) := by decide +kernel
theorem dX6_finish_7 : decode cX6_finish 7 = .ok (.putfield 166, 3) := by decide +kernel
theorem dX6_finish_10 : decode cX6_finish 10 = .ok (.iconst 0, 1) := by decide +kernel
theorem dX6_finish_11 : decode cX6_finish 11 = .ok (.ireturn, 1) := by decide +kernel
set_option maxRecDepth 20000 in
theorem ggX6_fence_X1_isNone : GoodIn wsX6_fence wsX1_isNone := goodIn_r _ [6, 7, 8] (by decide +kernel) (by decide +kernel)
set_option maxRecDepth 20000 in
theorem gX6_fence_X1_isNone : GoodIn wsX6_fence (va_wsS RX6 50 yX1_isNone wsX1_isNone) := goodIn_app (goodIn_of _ (by decide +kernel)) ggX6_fence_X1_isNone
set_option maxRecDepth 20000 in
theorem ggX6_fence_X6_refuse : GoodIn wsX6_fence wsX6_refuse := goodIn_r _ [13, 14, 79, 80, 81, 82, 83, 84, 85] (by decide +kernel) (by decide +kernel)
set_option maxRecDepth 20000 in
theorem gX6_fence_X6_refuse : GoodIn wsX6_fence (wsV RX6 46 RX6 yX6_refuse wsX6_refuse) := goodIn_app (goodIn_of _ (by decide +kernel)) ggX6_fence_X6_refuse
set_option maxRecDepth 20000 in
theorem ggX6_fence_X1_value : GoodIn wsX6_fence wsX1_value := goodIn_r _ [17, 18, 19, 5, 20, 7, 21, 22, 23, 24, 25, 8, 26, 27, 28, 29, 30, 31, 32, 33, 34, 35, 36, 37, 38, 39, 40, 41, 42, 43, 44, 45, 46] (by decide +kernel) (by decide +kernel)
set_option maxRecDepth 20000 in
theorem gX6_fence_X1_value : GoodIn wsX6_fence (va_wsS RX6 109 yX1_value wsX1_value) := goodIn_app (goodIn_of _ (by decide +kernel)) ggX6_fence_X1_value
set_option maxRecDepth 20000 in
theorem ggX6_fence_X0_wallAll : GoodIn wsX6_fence wsX0_wallAll := goodIn_r _ [51, 52, 53, 54, 55, 56, 57, 50, 58, 59, 60, 5, 61, 62, 63, 64, 7, 65, 66, 67, 86, 87, 88, 89, 90] (by decide +kernel) (by decide +kernel)
set_option maxRecDepth 20000 in
theorem gX6_fence_X0_wallAll : GoodIn wsX6_fence (wsV RX6 175 RX0 yX0_wallAll wsX0_wallAll) := goodIn_app (goodIn_of _ (by decide +kernel)) ggX6_fence_X0_wallAll
set_option maxRecDepth 20000 in
theorem ggX6_fence_X4_clear : GoodIn wsX6_fence wsX4_clear := goodIn_r _ [72, 73, 91, 92, 93, 94, 95] (by decide +kernel) (by decide +kernel)
set_option maxRecDepth 20000 in
theorem gX6_fence_X4_clear : GoodIn wsX6_fence (wsV RX6 179 RX4 yX4_clear wsX4_clear) := goodIn_app (goodIn_of _ (by decide +kernel)) ggX6_fence_X4_clear
set_option maxRecDepth 20000 in
theorem ggX6_fence_X6_finish : GoodIn wsX6_fence wsX6_finish := goodIn_r _ [77, 78, 79, 80, 81, 82, 83, 84, 85] (by decide +kernel) (by decide +kernel)
set_option maxRecDepth 20000 in
theorem gX6_fence_X6_finish : GoodIn wsX6_fence (wsV RX6 72 RX6 yX6_finish wsX6_finish) := goodIn_app (goodIn_of _ (by decide +kernel)) ggX6_fence_X6_finish
theorem dX6_fence_0 : decode cX6_fence 0 = .ok (.lload_n 2, 1) := by decide +kernel
theorem dX6_fence_1 : decode cX6_fence 1 = .ok (.invokestatic 50, 3) := by decide +kernel
theorem dX6_fence_4 : decode cX6_fence 4 = .ok (.ifCond .ne 11, 3) := by decide +kernel
theorem dX6_fence_7 : decode cX6_fence 7 = .ok (.lload 4, 2) := by decide +kernel
theorem dX6_fence_9 : decode cX6_fence 9 = .ok (.invokestatic 50, 3) := by decide +kernel
theorem dX6_fence_12 : decode cX6_fence 12 = .ok (.ifCond .eq 9, 3) := by decide +kernel
theorem dX6_fence_15 : decode cX6_fence 15 = .ok (.aload_n 0, 1) := by decide +kernel
theorem dX6_fence_16 : decode cX6_fence 16 = .ok (.iconst 2, 1) := by decide +kernel
theorem dX6_fence_17 : decode cX6_fence 17 = .ok (.invokevirtual 46, 3) := by decide +kernel
theorem dX6_fence_20 : decode cX6_fence 20 = .ok (.ireturn, 1) := by decide +kernel
theorem dX6_fence_21 : decode cX6_fence 21 = .ok (.lload_n 2, 1) := by decide +kernel
theorem dX6_fence_22 : decode cX6_fence 22 = .ok (.invokestatic 109, 3) := by decide +kernel
theorem dX6_fence_25 : decode cX6_fence 25 = .ok (.lload 4, 2) := by decide +kernel
theorem dX6_fence_27 : decode cX6_fence 27 = .ok (.invokestatic 109, 3) := by decide +kernel
theorem dX6_fence_30 : decode cX6_fence 30 = .ok (.dcmp .g, 1) := by decide +kernel
theorem dX6_fence_31 : decode cX6_fence 31 = .ok (.ifCond .lt 9, 3) := by decide +kernel
theorem dX6_fence_34 : decode cX6_fence 34 = .ok (.aload_n 0, 1) := by decide +kernel
theorem dX6_fence_35 : decode cX6_fence 35 = .ok (.iconst 4, 1) := by decide +kernel
theorem dX6_fence_36 : decode cX6_fence 36 = .ok (.invokevirtual 46, 3) := by decide +kernel
theorem dX6_fence_39 : decode cX6_fence 39 = .ok (.ireturn, 1) := by decide +kernel
theorem dX6_fence_40 : decode cX6_fence 40 = .ok (.aload_n 0, 1) := by decide +kernel
theorem dX6_fence_41 : decode cX6_fence 41 = .ok (.dup, 1) := by decide +kernel
theorem dX6_fence_42 : decode cX6_fence 42 = .ok (.getfield 172, 3) := by decide +kernel
theorem dX6_fence_45 : decode cX6_fence 45 = .ok (.aload_n 1, 1) := by decide +kernel
theorem dX6_fence_46 : decode cX6_fence 46 = .ok (.lload_n 2, 1) := by decide +kernel
theorem dX6_fence_47 : decode cX6_fence 47 = .ok (.lload 4, 2) := by decide +kernel
theorem dX6_fence_49 : decode cX6_fence 49 = .ok (.invokevirtual 175, 3) := by decide +kernel
theorem dX6_fence_52 : decode cX6_fence 52 = .ok (.iadd, 1) := by decide +kernel
theorem dX6_fence_53 : decode cX6_fence 53 = .ok (.putfield 172, 3) := by decide +kernel
theorem dX6_fence_56 : decode cX6_fence 56 = .ok (.aload_n 0, 1) := by decide +kernel
theorem dX6_fence_57 : decode cX6_fence 57 = .ok (.getfield 24, 3) := by decide +kernel
theorem dX6_fence_60 : decode cX6_fence 60 = .ok (.invokevirtual 179, 3) := by decide +kernel
theorem dX6_fence_63 : decode cX6_fence 63 = .ok (.aload_n 0, 1) := by decide +kernel
theorem dX6_fence_64 : decode cX6_fence 64 = .ok (.invokevirtual 72, 3) := by decide +kernel
theorem dX6_fence_67 : decode cX6_fence 67 = .ok (.ireturn, 1) := by decide +kernel
set_option maxRecDepth 20000 in
theorem ggX6_putWalled_X0_walled : GoodIn wsX6_putWalled wsX0_walled := goodIn_r _ [8, 9, 10, 11, 12, 13, 14, 15, 16, 17, 18, 19, 20, 21, 59, 60, 61, 62, 63] (by decide +kernel) (by decide +kernel)
set_option maxRecDepth 20000 in
theorem gX6_putWalled_X0_walled : GoodIn wsX6_putWalled (wsV RX6 182 RX0 yX0_walled wsX0_walled) := goodIn_app (goodIn_of _ (by decide +kernel)) ggX6_putWalled_X0_walled
set_option maxRecDepth 20000 in
theorem ggX6_putWalled_X1_isInfinite : GoodIn wsX6_putWalled wsX1_isInfinite := goodIn_r _ [24, 18, 25] (by decide +kernel) (by decide +kernel)
set_option maxRecDepth 20000 in
theorem gX6_putWalled_X1_isInfinite : GoodIn wsX6_putWalled (va_wsS RX6 54 yX1_isInfinite wsX1_isInfinite) := goodIn_app (goodIn_of _ (by decide +kernel)) ggX6_putWalled_X1_isInfinite
set_option maxRecDepth 20000 in
theorem ggX6_putWalled_X6_refuse : GoodIn wsX6_putWalled wsX6_refuse := goodIn_r _ [30, 31, 52, 53, 54, 55, 56, 57, 58] (by decide +kernel) (by decide +kernel)
set_option maxRecDepth 20000 in
theorem gX6_putWalled_X6_refuse : GoodIn wsX6_putWalled (wsV RX6 46 RX6 yX6_refuse wsX6_refuse) := goodIn_app (goodIn_of _ (by decide +kernel)) ggX6_putWalled_X6_refuse
set_option maxRecDepth 20000 in
theorem ggX6_putWalled_X6_put : GoodIn wsX6_putWalled wsX6_put := goodIn_r _ [35, 36, 1, 2, 37, 38, 39, 40, 41, 42, 43, 44, 45, 46, 47, 48, 49, 29, 50, 51, 52, 53, 54, 55, 56, 57, 58, 59, 60, 61, 62, 63, 64, 65, 66, 67, 68] (by decide +kernel) (by decide +kernel)
set_option maxRecDepth 20000 in
theorem gX6_putWalled_X6_put : GoodIn wsX6_putWalled (wsV RX6 102 RX6 yX6_put wsX6_put) := goodIn_app (goodIn_of _ (by decide +kernel)) ggX6_putWalled_X6_put
theorem dX6_putWalled_0 : decode cX6_putWalled 0 = .ok (.aload_n 0, 1) := by decide +kernel
theorem dX6_putWalled_1 : decode cX6_putWalled 1 = .ok (.getfield 12, 3) := by decide +kernel
theorem dX6_putWalled_4 : decode cX6_putWalled 4 = .ok (.lload_n 2, 1) := by decide +kernel
theorem dX6_putWalled_5 : decode cX6_putWalled 5 = .ok (.invokevirtual 182, 3) := by decide +kernel
theorem dX6_putWalled_8 : decode cX6_putWalled 8 = .ok (.lstore 6, 2) := by decide +kernel
theorem dX6_putWalled_10 : decode cX6_putWalled 10 = .ok (.aload_n 0, 1) := by decide +kernel
theorem dX6_putWalled_11 : decode cX6_putWalled 11 = .ok (.getfield 18, 3) := by decide +kernel
theorem dX6_putWalled_14 : decode cX6_putWalled 14 = .ok (.lload 4, 2) := by decide +kernel
theorem dX6_putWalled_16 : decode cX6_putWalled 16 = .ok (.invokevirtual 182, 3) := by decide +kernel
theorem dX6_putWalled_19 : decode cX6_putWalled 19 = .ok (.lstore 8, 2) := by decide +kernel
theorem dX6_putWalled_21 : decode cX6_putWalled 21 = .ok (.lload 6, 2) := by decide +kernel
theorem dX6_putWalled_23 : decode cX6_putWalled 23 = .ok (.invokestatic 54, 3) := by decide +kernel
theorem dX6_putWalled_26 : decode cX6_putWalled 26 = .ok (.ifCond .ne 11, 3) := by decide +kernel
theorem dX6_putWalled_29 : decode cX6_putWalled 29 = .ok (.lload 8, 2) := by decide +kernel
theorem dX6_putWalled_31 : decode cX6_putWalled 31 = .ok (.invokestatic 54, 3) := by decide +kernel
theorem dX6_putWalled_34 : decode cX6_putWalled 34 = .ok (.ifCond .eq 9, 3) := by decide +kernel
theorem dX6_putWalled_37 : decode cX6_putWalled 37 = .ok (.aload_n 0, 1) := by decide +kernel
theorem dX6_putWalled_38 : decode cX6_putWalled 38 = .ok (.iconst 5, 1) := by decide +kernel
theorem dX6_putWalled_39 : decode cX6_putWalled 39 = .ok (.invokevirtual 46, 3) := by decide +kernel
theorem dX6_putWalled_42 : decode cX6_putWalled 42 = .ok (.ireturn, 1) := by decide +kernel
theorem dX6_putWalled_43 : decode cX6_putWalled 43 = .ok (.lload 6, 2) := by decide +kernel
theorem dX6_putWalled_45 : decode cX6_putWalled 45 = .ok (.lload_n 2, 1) := by decide +kernel
theorem dX6_putWalled_46 : decode cX6_putWalled 46 = .ok (.lcmp, 1) := by decide +kernel
theorem dX6_putWalled_47 : decode cX6_putWalled 47 = .ok (.ifCond .eq 13, 3) := by decide +kernel
theorem dX6_putWalled_50 : decode cX6_putWalled 50 = .ok (.aload_n 0, 1) := by decide +kernel
theorem dX6_putWalled_51 : decode cX6_putWalled 51 = .ok (.dup, 1) := by decide +kernel
theorem dX6_putWalled_52 : decode cX6_putWalled 52 = .ok (.getfield 172, 3) := by decide +kernel
theorem dX6_putWalled_55 : decode cX6_putWalled 55 = .ok (.iconst 1, 1) := by decide +kernel
theorem dX6_putWalled_56 : decode cX6_putWalled 56 = .ok (.iadd, 1) := by decide +kernel
theorem dX6_putWalled_57 : decode cX6_putWalled 57 = .ok (.putfield 172, 3) := by decide +kernel
theorem dX6_putWalled_60 : decode cX6_putWalled 60 = .ok (.lload 8, 2) := by decide +kernel
theorem dX6_putWalled_62 : decode cX6_putWalled 62 = .ok (.lload 4, 2) := by decide +kernel
theorem dX6_putWalled_64 : decode cX6_putWalled 64 = .ok (.lcmp, 1) := by decide +kernel
theorem dX6_putWalled_65 : decode cX6_putWalled 65 = .ok (.ifCond .eq 13, 3) := by decide +kernel
theorem dX6_putWalled_68 : decode cX6_putWalled 68 = .ok (.aload_n 0, 1) := by decide +kernel
theorem dX6_putWalled_69 : decode cX6_putWalled 69 = .ok (.dup, 1) := by decide +kernel
theorem dX6_putWalled_70 : decode cX6_putWalled 70 = .ok (.getfield 172, 3) := by decide +kernel
theorem dX6_putWalled_73 : decode cX6_putWalled 73 = .ok (.iconst 1, 1) := by decide +kernel
theorem dX6_putWalled_74 : decode cX6_putWalled 74 = .ok (.iadd, 1) := by decide +kernel
theorem dX6_putWalled_75 : decode cX6_putWalled 75 = .ok (.putfield 172, 3) := by decide +kernel
theorem dX6_putWalled_78 : decode cX6_putWalled 78 = .ok (.aload_n 0, 1) := by decide +kernel
theorem dX6_putWalled_79 : decode cX6_putWalled 79 = .ok (.iload_n 1, 1) := by decide +kernel
theorem dX6_putWalled_80 : decode cX6_putWalled 80 = .ok (.lload 6, 2) := by decide +kernel
theorem dX6_putWalled_82 : decode cX6_putWalled 82 = .ok (.lload 8, 2) := by decide +kernel
theorem dX6_putWalled_84 : decode cX6_putWalled 84 = .ok (.invokevirtual 102, 3) := by decide +kernel
theorem dX6_putWalled_87 : decode cX6_putWalled 87 = .ok (.ireturn, 1) := by decide +kernel
set_option maxRecDepth 20000 in
theorem ggX6_put_X4_keep : GoodIn wsX6_put wsX4_keep := goodIn_r _ [8, 9, 10, 11, 12, 13, 32, 33, 34, 35, 36] (by decide +kernel) (by decide +kernel)
set_option maxRecDepth 20000 in
theorem gX6_put_X4_keep : GoodIn wsX6_put (wsV RX6 185 RX4 yX4_keep wsX4_keep) := goodIn_app (goodIn_of _ (by decide +kernel)) ggX6_put_X4_keep
set_option maxRecDepth 20000 in
theorem ggX6_put_X6_finish : GoodIn wsX6_put wsX6_finish := goodIn_r _ [18, 19, 20, 21, 22, 23, 24, 25, 26] (by decide +kernel) (by decide +kernel)
set_option maxRecDepth 20000 in
theorem gX6_put_X6_finish : GoodIn wsX6_put (wsV RX6 72 RX6 yX6_finish wsX6_finish) := goodIn_app (goodIn_of _ (by decide +kernel)) ggX6_put_X6_finish
theorem dX6_put_0 : decode cX6_put 0 = .ok (.aload_n 0, 1) := by decide +kernel
theorem dX6_put_1 : decode cX6_put 1 = .ok (.getfield 24, 3) := by decide +kernel
theorem dX6_put_4 : decode cX6_put 4 = .ok (.iload_n 1, 1) := by decide +kernel
theorem dX6_put_5 : decode cX6_put 5 = .ok (.aload_n 0, 1) := by decide +kernel
theorem dX6_put_6 : decode cX6_put 6 = .ok (.getfield 12, 3) := by decide +kernel
theorem dX6_put_9 : decode cX6_put 9 = .ok (.getfield 76, 3) := by decide +kernel
theorem dX6_put_12 : decode cX6_put 12 = .ok (.iload_n 1, 1) := by decide +kernel
theorem dX6_put_13 : decode cX6_put 13 = .ok (.laload, 1) := by decide +kernel
theorem dX6_put_14 : decode cX6_put 14 = .ok (.aload_n 0, 1) := by decide +kernel
theorem dX6_put_15 : decode cX6_put 15 = .ok (.getfield 18, 3) := by decide +kernel
theorem dX6_put_18 : decode cX6_put 18 = .ok (.getfield 76, 3) := by decide +kernel
theorem dX6_put_21 : decode cX6_put 21 = .ok (.iload_n 1, 1) := by decide +kernel
theorem dX6_put_22 : decode cX6_put 22 = .ok (.laload, 1) := by decide +kernel
theorem dX6_put_23 : decode cX6_put 23 = .ok (.invokevirtual 185, 3) := by decide +kernel
theorem dX6_put_26 : decode cX6_put 26 = .ok (.aload_n 0, 1) := by decide +kernel
theorem dX6_put_27 : decode cX6_put 27 = .ok (.getfield 12, 3) := by decide +kernel
theorem dX6_put_30 : decode cX6_put 30 = .ok (.getfield 76, 3) := by decide +kernel
theorem dX6_put_33 : decode cX6_put 33 = .ok (.iload_n 1, 1) := by decide +kernel
theorem dX6_put_34 : decode cX6_put 34 = .ok (.lload_n 2, 1) := by decide +kernel
theorem dX6_put_35 : decode cX6_put 35 = .ok (.lastore, 1) := by decide +kernel
theorem dX6_put_36 : decode cX6_put 36 = .ok (.aload_n 0, 1) := by decide +kernel
theorem dX6_put_37 : decode cX6_put 37 = .ok (.getfield 18, 3) := by decide +kernel
theorem dX6_put_40 : decode cX6_put 40 = .ok (.getfield 76, 3) := by decide +kernel
theorem dX6_put_43 : decode cX6_put 43 = .ok (.iload_n 1, 1) := by decide +kernel
theorem dX6_put_44 : decode cX6_put 44 = .ok (.lload 4, 2) := by decide +kernel
theorem dX6_put_46 : decode cX6_put 46 = .ok (.lastore, 1) := by decide +kernel
theorem dX6_put_47 : decode cX6_put 47 = .ok (.aload_n 0, 1) := by decide +kernel
theorem dX6_put_48 : decode cX6_put 48 = .ok (.invokevirtual 72, 3) := by decide +kernel
theorem dX6_put_51 : decode cX6_put 51 = .ok (.ireturn, 1) := by decide +kernel
set_option maxRecDepth 20000 in
theorem ggX6_nearestGuide_X1_isInfinite : GoodIn wsX6_nearestGuide wsX1_isInfinite := goodIn_r _ [6, 7, 8] (by decide +kernel) (by decide +kernel)
set_option maxRecDepth 20000 in
theorem gX6_nearestGuide_X1_isInfinite : GoodIn wsX6_nearestGuide (va_wsS RX6 54 yX1_isInfinite wsX1_isInfinite) := goodIn_app (goodIn_of _ (by decide +kernel)) ggX6_nearestGuide_X1_isInfinite
set_option maxRecDepth 20000 in
theorem ggX6_nearestGuide_X0_apart : GoodIn wsX6_nearestGuide wsX0_apart := goodIn_r _ [13, 14, 15, 16, 5, 17, 18, 19, 20, 7, 21, 22, 23, 4, 6, 8, 24, 25, 26, 27, 28, 29, 30, 31, 32, 33, 34, 35, 36, 37, 38, 39, 40, 41, 42, 43, 44, 52, 53, 54, 55, 56] (by decide +kernel) (by decide +kernel)
set_option maxRecDepth 20000 in
theorem gX6_nearestGuide_X0_apart : GoodIn wsX6_nearestGuide (wsV RX6 117 RX0 yX0_apart wsX0_apart) := goodIn_app (goodIn_of _ (by decide +kernel)) ggX6_nearestGuide_X0_apart
theorem dX6_nearestGuide_0 : decode cX6_nearestGuide 0 = .ok (.iconst (-1), 1) := by decide +kernel
theorem dX6_nearestGuide_1 : decode cX6_nearestGuide 1 = .ok (.istore_n 3, 1) := by decide +kernel
theorem dX6_nearestGuide_2 : decode cX6_nearestGuide 2 = .ok (.dconst 0, 1) := by decide +kernel
theorem dX6_nearestGuide_3 : decode cX6_nearestGuide 3 = .ok (.dstore 4, 2) := by decide +kernel
theorem dX6_nearestGuide_5 : decode cX6_nearestGuide 5 = .ok (.iconst 0, 1) := by decide +kernel
theorem dX6_nearestGuide_6 : decode cX6_nearestGuide 6 = .ok (.istore 6, 2) := by decide +kernel
theorem dX6_nearestGuide_8 : decode cX6_nearestGuide 8 = .ok (.iload 6, 2) := by decide +kernel
theorem dX6_nearestGuide_10 : decode cX6_nearestGuide 10 = .ok (.iconst 4, 1) := by decide +kernel
theorem dX6_nearestGuide_11 : decode cX6_nearestGuide 11 = .ok (.if_icmp .ge 59, 3) := by decide +kernel
theorem dX6_nearestGuide_14 : decode cX6_nearestGuide 14 = .ok (.aload_n 0, 1) := by decide +kernel
theorem dX6_nearestGuide_15 : decode cX6_nearestGuide 15 = .ok (.getfield 28, 3) := by decide +kernel
theorem dX6_nearestGuide_18 : decode cX6_nearestGuide 18 = .ok (.iload 6, 2) := by decide +kernel
theorem dX6_nearestGuide_20 : decode cX6_nearestGuide 20 = .ok (.laload, 1) := by decide +kernel
theorem dX6_nearestGuide_21 : decode cX6_nearestGuide 21 = .ok (.invokestatic 54, 3) := by decide +kernel
theorem dX6_nearestGuide_24 : decode cX6_nearestGuide 24 = .ok (.ifCond .ne 40, 3) := by decide +kernel
theorem dX6_nearestGuide_27 : decode cX6_nearestGuide 27 = .ok (.aload_n 0, 1) := by decide +kernel
theorem dX6_nearestGuide_28 : decode cX6_nearestGuide 28 = .ok (.getfield 12, 3) := by decide +kernel
theorem dX6_nearestGuide_31 : decode cX6_nearestGuide 31 = .ok (.lload_n 1, 1) := by decide +kernel
theorem dX6_nearestGuide_32 : decode cX6_nearestGuide 32 = .ok (.aload_n 0, 1) := by decide +kernel
theorem dX6_nearestGuide_33 : decode cX6_nearestGuide 33 = .ok (.getfield 28, 3) := by decide +kernel
theorem dX6_nearestGuide_36 : decode cX6_nearestGuide 36 = .ok (.iload 6, 2) := by decide +kernel
theorem dX6_nearestGuide_38 : decode cX6_nearestGuide 38 = .ok (.laload, 1) := by decide +kernel
theorem dX6_nearestGuide_39 : decode cX6_nearestGuide 39 = .ok (.invokevirtual 117, 3) := by decide +kernel
theorem dX6_nearestGuide_42 : decode cX6_nearestGuide 42 = .ok (.dstore 7, 2) := by decide +kernel
theorem dX6_nearestGuide_44 : decode cX6_nearestGuide 44 = .ok (.iload_n 3, 1) := by decide +kernel
theorem dX6_nearestGuide_45 : decode cX6_nearestGuide 45 = .ok (.iconst (-1), 1) := by decide +kernel
theorem dX6_nearestGuide_46 : decode cX6_nearestGuide 46 = .ok (.if_icmp .eq 11, 3) := by decide +kernel
theorem dX6_nearestGuide_49 : decode cX6_nearestGuide 49 = .ok (.dload 7, 2) := by decide +kernel
theorem dX6_nearestGuide_51 : decode cX6_nearestGuide 51 = .ok (.dload 4, 2) := by decide +kernel
theorem dX6_nearestGuide_53 : decode cX6_nearestGuide 53 = .ok (.dcmp .g, 1) := by decide +kernel
theorem dX6_nearestGuide_54 : decode cX6_nearestGuide 54 = .ok (.ifCond .ge 10, 3) := by decide +kernel
theorem dX6_nearestGuide_57 : decode cX6_nearestGuide 57 = .ok (.iload 6, 2) := by decide +kernel
theorem dX6_nearestGuide_59 : decode cX6_nearestGuide 59 = .ok (.istore_n 3, 1) := by decide +kernel
theorem dX6_nearestGuide_60 : decode cX6_nearestGuide 60 = .ok (.dload 7, 2) := by decide +kernel
theorem dX6_nearestGuide_62 : decode cX6_nearestGuide 62 = .ok (.dstore 4, 2) := by decide +kernel
theorem dX6_nearestGuide_64 : decode cX6_nearestGuide 64 = .ok (.iinc 6 1, 3) := by decide +kernel
theorem dX6_nearestGuide_67 : decode cX6_nearestGuide 67 = .ok (.goto (-59), 3) := by decide +kernel
theorem dX6_nearestGuide_70 : decode cX6_nearestGuide 70 = .ok (.iload_n 3, 1) := by decide +kernel
theorem dX6_nearestGuide_71 : decode cX6_nearestGuide 71 = .ok (.ireturn, 1) := by decide +kernel
set_option maxRecDepth 20000 in
theorem ggX6_distance_X0_apart : GoodIn wsX6_distance wsX0_apart := goodIn_r _ [7, 8, 9, 10, 11, 12, 13, 14, 15, 16, 17, 18, 19, 20, 21, 22, 23, 24, 25, 26, 27, 28, 29, 30, 31, 32, 33, 34, 35, 36, 37, 38, 39, 40, 41, 42, 43, 51, 52, 53, 54, 55] (by decide +kernel) (by decide +kernel)
set_option maxRecDepth 20000 in
theorem gX6_distance_X0_apart : GoodIn wsX6_distance (wsV RX6 117 RX0 yX0_apart wsX0_apart) := goodIn_app (goodIn_of _ (by decide +kernel)) ggX6_distance_X0_apart
theorem dX6_distance_0 : decode cX6_distance 0 = .ok (.aload_n 0, 1) := by decide +kernel
theorem dX6_distance_1 : decode cX6_distance 1 = .ok (.getfield 12, 3) := by decide +kernel
theorem dX6_distance_4 : decode cX6_distance 4 = .ok (.aload_n 0, 1) := by decide +kernel
theorem dX6_distance_5 : decode cX6_distance 5 = .ok (.getfield 12, 3) := by decide +kernel
theorem dX6_distance_8 : decode cX6_distance 8 = .ok (.getfield 76, 3) := by decide +kernel
theorem dX6_distance_11 : decode cX6_distance 11 = .ok (.iload_n 1, 1) := by decide +kernel
theorem dX6_distance_12 : decode cX6_distance 12 = .ok (.laload, 1) := by decide +kernel
theorem dX6_distance_13 : decode cX6_distance 13 = .ok (.aload_n 0, 1) := by decide +kernel
theorem dX6_distance_14 : decode cX6_distance 14 = .ok (.getfield 12, 3) := by decide +kernel
theorem dX6_distance_17 : decode cX6_distance 17 = .ok (.getfield 76, 3) := by decide +kernel
theorem dX6_distance_20 : decode cX6_distance 20 = .ok (.iload_n 2, 1) := by decide +kernel
theorem dX6_distance_21 : decode cX6_distance 21 = .ok (.laload, 1) := by decide +kernel
theorem dX6_distance_22 : decode cX6_distance 22 = .ok (.invokevirtual 117, 3) := by decide +kernel
theorem dX6_distance_25 : decode cX6_distance 25 = .ok (.dstore_n 3, 1) := by decide +kernel
theorem dX6_distance_26 : decode cX6_distance 26 = .ok (.aload_n 0, 1) := by decide +kernel
theorem dX6_distance_27 : decode cX6_distance 27 = .ok (.getfield 18, 3) := by decide +kernel
theorem dX6_distance_30 : decode cX6_distance 30 = .ok (.aload_n 0, 1) := by decide +kernel
theorem dX6_distance_31 : decode cX6_distance 31 = .ok (.getfield 18, 3) := by decide +kernel
theorem dX6_distance_34 : decode cX6_distance 34 = .ok (.getfield 76, 3) := by decide +kernel
theorem dX6_distance_37 : decode cX6_distance 37 = .ok (.iload_n 1, 1) := by decide +kernel
theorem dX6_distance_38 : decode cX6_distance 38 = .ok (.laload, 1) := by decide +kernel
theorem dX6_distance_39 : decode cX6_distance 39 = .ok (.aload_n 0, 1) := by decide +kernel
theorem dX6_distance_40 : decode cX6_distance 40 = .ok (.getfield 18, 3) := by decide +kernel
theorem dX6_distance_43 : decode cX6_distance 43 = .ok (.getfield 76, 3) := by decide +kernel
theorem dX6_distance_46 : decode cX6_distance 46 = .ok (.iload_n 2, 1) := by decide +kernel
theorem dX6_distance_47 : decode cX6_distance 47 = .ok (.laload, 1) := by decide +kernel
theorem dX6_distance_48 : decode cX6_distance 48 = .ok (.invokevirtual 117, 3) := by decide +kernel
theorem dX6_distance_51 : decode cX6_distance 51 = .ok (.dstore 5, 2) := by decide +kernel
theorem dX6_distance_53 : decode cX6_distance 53 = .ok (.dload_n 3, 1) := by decide +kernel
theorem dX6_distance_54 : decode cX6_distance 54 = .ok (.dload 5, 2) := by decide +kernel
theorem dX6_distance_56 : decode cX6_distance 56 = .ok (.dcmp .l, 1) := by decide +kernel
theorem dX6_distance_57 : decode cX6_distance 57 = .ok (.ifCond .lt 7, 3) := by decide +kernel
theorem dX6_distance_60 : decode cX6_distance 60 = .ok (.dload_n 3, 1) := by decide +kernel
theorem dX6_distance_61 : decode cX6_distance 61 = .ok (.goto 5, 3) := by decide +kernel
theorem dX6_distance_64 : decode cX6_distance 64 = .ok (.dload 5, 2) := by decide +kernel
theorem dX6_distance_66 : decode cX6_distance 66 = .ok (.dreturn, 1) := by decide +kernel
set_option maxRecDepth 20000 in
theorem ggX6_cellAt_X0_wholeSteps : GoodIn wsX6_cellAt wsX0_wholeSteps := goodIn_r _ [6, 7, 8, 9, 10, 11, 12, 13, 14, 15, 16, 17, 18, 19, 20, 21, 22, 23, 24, 25, 26, 27, 28, 29, 30, 31, 32, 33, 34, 35, 36, 37, 38, 39, 40, 41, 42, 43, 44, 45, 46, 47, 48, 49, 50, 51, 52, 53, 54, 55, 56, 57, 58, 59, 60, 61, 62, 63, 64, 65, 66, 67, 68, 80, 81, 82, 83, 84] (by decide +kernel) (by decide +kernel)
set_option maxRecDepth 20000 in
theorem gX6_cellAt_X0_wholeSteps : GoodIn wsX6_cellAt (wsV RX6 189 RX0 yX0_wholeSteps wsX0_wholeSteps) := goodIn_app (goodIn_of _ (by decide +kernel)) ggX6_cellAt_X0_wholeSteps
set_option maxRecDepth 20000 in
theorem ggX6_cellAt_X1_value : GoodIn wsX6_cellAt wsX1_value := goodIn_r _ [71, 72, 10, 11, 12, 13, 14, 15, 16, 17, 18, 19, 20, 21, 22, 23, 24, 25, 26, 27, 28, 29, 30, 31, 32, 33, 34, 35, 36, 37, 38, 39, 40] (by decide +kernel) (by decide +kernel)
set_option maxRecDepth 20000 in
theorem gX6_cellAt_X1_value : GoodIn wsX6_cellAt (va_wsS RX6 109 yX1_value wsX1_value) := goodIn_app (goodIn_of _ (by decide +kernel)) ggX6_cellAt_X1_value
theorem dX6_cellAt_0 : decode cX6_cellAt 0 = .ok (.aload_n 0, 1) := by decide +kernel
theorem dX6_cellAt_1 : decode cX6_cellAt 1 = .ok (.getfield 12, 3) := by decide +kernel
theorem dX6_cellAt_4 : decode cX6_cellAt 4 = .ok (.lload_n 1, 1) := by decide +kernel
theorem dX6_cellAt_5 : decode cX6_cellAt 5 = .ok (.iconst 0, 1) := by decide +kernel
theorem dX6_cellAt_6 : decode cX6_cellAt 6 = .ok (.invokevirtual 189, 3) := by decide +kernel
theorem dX6_cellAt_9 : decode cX6_cellAt 9 = .ok (.invokestatic 109, 3) := by decide +kernel
theorem dX6_cellAt_12 : decode cX6_cellAt 12 = .ok (.d2i, 1) := by decide +kernel
theorem dX6_cellAt_13 : decode cX6_cellAt 13 = .ok (.ireturn, 1) := by decide +kernel
set_option maxRecDepth 20000 in
theorem ggX6_markAt_X0_wholeSteps : GoodIn wsX6_markAt wsX0_wholeSteps := goodIn_r _ [6, 7, 8, 9, 10, 11, 12, 13, 14, 15, 16, 17, 18, 19, 20, 21, 22, 23, 24, 25, 26, 27, 28, 29, 30, 31, 32, 33, 34, 35, 36, 37, 38, 39, 40, 41, 42, 43, 44, 45, 46, 47, 48, 49, 50, 51, 52, 53, 54, 55, 56, 57, 58, 59, 60, 61, 62, 63, 64, 65, 66, 67, 68, 80, 81, 82, 83, 84] (by decide +kernel) (by decide +kernel)
set_option maxRecDepth 20000 in
theorem gX6_markAt_X0_wholeSteps : GoodIn wsX6_markAt (wsV RX6 189 RX0 yX0_wholeSteps wsX0_wholeSteps) := goodIn_app (goodIn_of _ (by decide +kernel)) ggX6_markAt_X0_wholeSteps
set_option maxRecDepth 20000 in
theorem ggX6_markAt_X1_value : GoodIn wsX6_markAt wsX1_value := goodIn_r _ [71, 72, 10, 11, 12, 13, 14, 15, 16, 17, 18, 19, 20, 21, 22, 23, 24, 25, 26, 27, 28, 29, 30, 31, 32, 33, 34, 35, 36, 37, 38, 39, 40] (by decide +kernel) (by decide +kernel)
set_option maxRecDepth 20000 in
theorem gX6_markAt_X1_value : GoodIn wsX6_markAt (va_wsS RX6 109 yX1_value wsX1_value) := goodIn_app (goodIn_of _ (by decide +kernel)) ggX6_markAt_X1_value
theorem dX6_markAt_0 : decode cX6_markAt 0 = .ok (.aload_n 0, 1) := by decide +kernel
theorem dX6_markAt_1 : decode cX6_markAt 1 = .ok (.getfield 18, 3) := by decide +kernel
theorem dX6_markAt_4 : decode cX6_markAt 4 = .ok (.lload_n 1, 1) := by decide +kernel
theorem dX6_markAt_5 : decode cX6_markAt 5 = .ok (.iconst 2, 1) := by decide +kernel
theorem dX6_markAt_6 : decode cX6_markAt 6 = .ok (.invokevirtual 189, 3) := by decide +kernel
theorem dX6_markAt_9 : decode cX6_markAt 9 = .ok (.invokestatic 109, 3) := by decide +kernel
theorem dX6_markAt_12 : decode cX6_markAt 12 = .ok (.d2l, 1) := by decide +kernel
theorem dX6_markAt_13 : decode cX6_markAt 13 = .ok (.lreturn, 1) := by decide +kernel
theorem dX7_init_0 : decode cX7_init 0 = .ok (.aload_n 0, 1) := by decide +kernel
theorem dX7_init_1 : decode cX7_init 1 = .ok (.invokespecial 1, 3) := by decide +kernel
theorem dX7_init_4 : decode cX7_init 4 = .ok (.aload_n 0, 1) := by decide +kernel
theorem dX7_init_5 : decode cX7_init 5 = .ok (.bipush 8, 2) := by decide +kernel
theorem dX7_init_7 : decode cX7_init 7 = .ok (.newarray .long, 2) := by decide +kernel
theorem dX7_init_9 : decode cX7_init 9 = .ok (.putfield 7, 3) := by decide +kernel
theorem dX7_init_12 : decode cX7_init 12 = .ok (.aload_n 0, 1) := by decide +kernel
theorem dX7_init_13 : decode cX7_init 13 = .ok (.bipush 8, 2) := by decide +kernel
theorem dX7_init_15 : decode cX7_init 15 = .ok (.newarray .int, 2) := by decide +kernel
theorem dX7_init_17 : decode cX7_init 17 = .ok (.putfield 13, 3) := by decide +kernel
theorem dX7_init_20 : decode cX7_init 20 = .ok (.aload_n 0, 1) := by decide +kernel
theorem dX7_init_21 : decode cX7_init 21 = .ok (.ldc2_w 17, 3) := by decide +kernel
theorem dX7_init_24 : decode cX7_init 24 = .ok (.putfield 19, 3) := by decide +kernel
theorem dX7_init_27 : decode cX7_init 27 = .ok (.aload_n 0, 1) := by decide +kernel
theorem dX7_init_28 : decode cX7_init 28 = .ok (.ldc2_w 23, 3) := by decide +kernel
theorem dX7_init_31 : decode cX7_init 31 = .ok (.putfield 25, 3) := by decide +kernel
theorem dX7_init_34 : decode cX7_init 34 = .ok (.aload_n 0, 1) := by decide +kernel
theorem dX7_init_35 : decode cX7_init 35 = .ok (.ldc2_w 28, 3) := by decide +kernel
theorem dX7_init_38 : decode cX7_init 38 = .ok (.putfield 30, 3) := by decide +kernel
theorem dX7_init_41 : decode cX7_init 41 = .ok (.aload_n 0, 1) := by decide +kernel
theorem dX7_init_42 : decode cX7_init 42 = .ok (.ldc 33, 2) := by decide +kernel
theorem dX7_init_44 : decode cX7_init 44 = .ok (.putfield 34, 3) := by decide +kernel
theorem dX7_init_47 : decode cX7_init 47 = .ok (.aload_n 0, 1) := by decide +kernel
theorem dX7_init_48 : decode cX7_init 48 = .ok (.ldc 38, 2) := by decide +kernel
theorem dX7_init_50 : decode cX7_init 50 = .ok (.putfield 39, 3) := by decide +kernel
theorem dX7_init_53 : decode cX7_init 53 = .ok (.aload_n 0, 1) := by decide +kernel
theorem dX7_init_54 : decode cX7_init 54 = .ok (.ldc 42, 2) := by decide +kernel
theorem dX7_init_56 : decode cX7_init 56 = .ok (.putfield 43, 3) := by decide +kernel
theorem dX7_init_59 : decode cX7_init 59 = .ok (.aload_n 0, 1) := by decide +kernel
theorem dX7_init_60 : decode cX7_init 60 = .ok (.iconst 4, 1) := by decide +kernel
theorem dX7_init_61 : decode cX7_init 61 = .ok (.newarray .long, 2) := by decide +kernel
theorem dX7_init_63 : decode cX7_init 63 = .ok (.putfield 46, 3) := by decide +kernel
theorem dX7_init_66 : decode cX7_init 66 = .ok (.aload_n 0, 1) := by decide +kernel
theorem dX7_init_67 : decode cX7_init 67 = .ok (.iconst 4, 1) := by decide +kernel
theorem dX7_init_68 : decode cX7_init 68 = .ok (.newarray .boolean, 2) := by decide +kernel
theorem dX7_init_70 : decode cX7_init 70 = .ok (.putfield 49, 3) := by decide +kernel
theorem dX7_init_73 : decode cX7_init 73 = .ok (.aload_n 0, 1) := by decide +kernel
theorem dX7_init_74 : decode cX7_init 74 = .ok (.bipush 17, 2) := by decide +kernel
theorem dX7_init_76 : decode cX7_init 76 = .ok (.newarray .int, 2) := by decide +kernel
theorem dX7_init_78 : decode cX7_init 78 = .ok (.putfield 53, 3) := by decide +kernel
theorem dX7_init_81 : decode cX7_init 81 = .ok (.aload_n 0, 1) := by decide +kernel
theorem dX7_init_82 : decode cX7_init 82 = .ok (.bipush 17, 2) := by decide +kernel
theorem dX7_init_84 : decode cX7_init 84 = .ok (.newarray .long, 2) := by decide +kernel
theorem dX7_init_86 : decode cX7_init 86 = .ok (.putfield 56, 3) := by decide +kernel
theorem dX7_init_89 : decode cX7_init 89 = .ok (.aload_n 0, 1) := by decide +kernel
theorem dX7_init_90 : decode cX7_init 90 = .ok (.bipush 17, 2) := by decide +kernel
theorem dX7_init_92 : decode cX7_init 92 = .ok (.newarray .int, 2) := by decide +kernel
theorem dX7_init_94 : decode cX7_init 94 = .ok (.putfield 59, 3) := by decide +kernel
theorem dX7_init_97 : decode cX7_init 97 = .ok (.return_, 1) := by decide +kernel
theorem dX7_of_0 : decode cX7_of 0 = .ok (.lload_n 0, 1) := by decide +kernel
theorem dX7_of_1 : decode cX7_of 1 = .ok (.invokestatic 62, 3) := by decide +kernel
theorem dX7_of_4 : decode cX7_of 4 = .ok (.dreturn, 1) := by decide +kernel
set_option maxRecDepth 20000 in
theorem ggX7_bits_Jxe99ae_doubleToLongBits_ccdee : GoodIn wsX7_bits wsJxe99ae_doubleToLongBits_ccdee := goodIn_r _ [4, 5, 6, 7, 8, 9, 10, 11, 3, 12] (by decide +kernel) (by decide +kernel)
set_option maxRecDepth 20000 in
theorem gX7_bits_Jxe99ae_doubleToLongBits_ccdee : GoodIn wsX7_bits (va_wsS RX7 68 yJxe99ae_doubleToLongBits_ccdee wsJxe99ae_doubleToLongBits_ccdee) := goodIn_app (goodIn_of _ (by decide +kernel)) ggX7_bits_Jxe99ae_doubleToLongBits_ccdee
theorem dX7_bits_0 : decode cX7_bits 0 = .ok (.dload_n 0, 1) := by decide +kernel
theorem dX7_bits_1 : decode cX7_bits 1 = .ok (.invokestatic 68, 3) := by decide +kernel
theorem dX7_bits_4 : decode cX7_bits 4 = .ok (.lreturn, 1) := by decide +kernel
theorem dX7_size_0 : decode cX7_size 0 = .ok (.lload_n 0, 1) := by decide +kernel
theorem dX7_size_1 : decode cX7_size 1 = .ok (.ldc2_w 72, 3) := by decide +kernel
theorem dX7_size_4 : decode cX7_size 4 = .ok (.land, 1) := by decide +kernel
theorem dX7_size_5 : decode cX7_size 5 = .ok (.lreturn, 1) := by decide +kernel
set_option maxRecDepth 20000 in
theorem ggX7_isNone_X7_size : GoodIn wsX7_isNone wsX7_size := goodIn_r _ [5, 6] (by decide +kernel) (by decide +kernel)
set_option maxRecDepth 20000 in
theorem gX7_isNone_X7_size : GoodIn wsX7_isNone (va_wsS RX7 74 yX7_size wsX7_size) := goodIn_app (goodIn_of _ (by decide +kernel)) ggX7_isNone_X7_size
theorem dX7_isNone_0 : decode cX7_isNone 0 = .ok (.lload_n 0, 1) := by decide +kernel
theorem dX7_isNone_1 : decode cX7_isNone 1 = .ok (.invokestatic 74, 3) := by decide +kernel
theorem dX7_isNone_4 : decode cX7_isNone 4 = .ok (.ldc2_w 23, 3) := by decide +kernel
theorem dX7_isNone_7 : decode cX7_isNone 7 = .ok (.lcmp, 1) := by decide +kernel
theorem dX7_isNone_8 : decode cX7_isNone 8 = .ok (.ifCond .le 7, 3) := by decide +kernel
theorem dX7_isNone_11 : decode cX7_isNone 11 = .ok (.iconst 1, 1) := by decide +kernel
theorem dX7_isNone_12 : decode cX7_isNone 12 = .ok (.goto 4, 3) := by decide +kernel
theorem dX7_isNone_15 : decode cX7_isNone 15 = .ok (.iconst 0, 1) := by decide +kernel
theorem dX7_isNone_16 : decode cX7_isNone 16 = .ok (.ireturn, 1) := by decide +kernel
set_option maxRecDepth 20000 in
theorem ggX7_isInfinite_X7_size : GoodIn wsX7_isInfinite wsX7_size := goodIn_r _ [5, 6] (by decide +kernel) (by decide +kernel)
set_option maxRecDepth 20000 in
theorem gX7_isInfinite_X7_size : GoodIn wsX7_isInfinite (va_wsS RX7 74 yX7_size wsX7_size) := goodIn_app (goodIn_of _ (by decide +kernel)) ggX7_isInfinite_X7_size
theorem dX7_isInfinite_0 : decode cX7_isInfinite 0 = .ok (.lload_n 0, 1) := by decide +kernel
theorem dX7_isInfinite_1 : decode cX7_isInfinite 1 = .ok (.invokestatic 74, 3) := by decide +kernel
theorem dX7_isInfinite_4 : decode cX7_isInfinite 4 = .ok (.ldc2_w 23, 3) := by decide +kernel
theorem dX7_isInfinite_7 : decode cX7_isInfinite 7 = .ok (.lcmp, 1) := by decide +kernel
theorem dX7_isInfinite_8 : decode cX7_isInfinite 8 = .ok (.ifCond .ne 7, 3) := by decide +kernel
theorem dX7_isInfinite_11 : decode cX7_isInfinite 11 = .ok (.iconst 1, 1) := by decide +kernel
theorem dX7_isInfinite_12 : decode cX7_isInfinite 12 = .ok (.goto 4, 3) := by decide +kernel
theorem dX7_isInfinite_15 : decode cX7_isInfinite 15 = .ok (.iconst 0, 1) := by decide +kernel
theorem dX7_isInfinite_16 : decode cX7_isInfinite 16 = .ok (.ireturn, 1) := by decide +kernel
set_option maxRecDepth 20000 in
theorem ggX7_order_X7_size : GoodIn wsX7_order wsX7_size := goodIn_r _ [5, 6] (by decide +kernel) (by decide +kernel)
set_option maxRecDepth 20000 in
theorem gX7_order_X7_size : GoodIn wsX7_order (va_wsS RX7 74 yX7_size wsX7_size) := goodIn_app (goodIn_of _ (by decide +kernel)) ggX7_order_X7_size
theorem dX7_order_0 : decode cX7_order 0 = .ok (.lload_n 0, 1) := by decide +kernel
theorem dX7_order_1 : decode cX7_order 1 = .ok (.lconst 0, 1) := by decide +kernel
theorem dX7_order_2 : decode cX7_order 2 = .ok (.lcmp, 1) := by decide +kernel
theorem dX7_order_3 : decode cX7_order 3 = .ok (.ifCond .ge 14, 3) := by decide +kernel
theorem dX7_order_6 : decode cX7_order 6 = .ok (.ldc2_w 78, 3) := by decide +kernel
theorem dX7_order_9 : decode cX7_order 9 = .ok (.lload_n 0, 1) := by decide +kernel
theorem dX7_order_10 : decode cX7_order 10 = .ok (.invokestatic 74, 3) := by decide +kernel
theorem dX7_order_13 : decode cX7_order 13 = .ok (.lsub, 1) := by decide +kernel
theorem dX7_order_14 : decode cX7_order 14 = .ok (.goto 4, 3) := by decide +kernel
theorem dX7_order_17 : decode cX7_order 17 = .ok (.lload_n 0, 1) := by decide +kernel
theorem dX7_order_18 : decode cX7_order 18 = .ok (.lreturn, 1) := by decide +kernel
set_option maxRecDepth 20000 in
theorem ggX7_lesser_X7_order : GoodIn wsX7_lesser wsX7_order := goodIn_r _ [4, 5, 6, 7, 3, 8, 9] (by decide +kernel) (by decide +kernel)
set_option maxRecDepth 20000 in
theorem gX7_lesser_X7_order : GoodIn wsX7_lesser (va_wsS RX7 80 yX7_order wsX7_order) := goodIn_app (goodIn_of _ (by decide +kernel)) ggX7_lesser_X7_order
theorem dX7_lesser_0 : decode cX7_lesser 0 = .ok (.lload_n 0, 1) := by decide +kernel
theorem dX7_lesser_1 : decode cX7_lesser 1 = .ok (.invokestatic 80, 3) := by decide +kernel
theorem dX7_lesser_4 : decode cX7_lesser 4 = .ok (.lload_n 2, 1) := by decide +kernel
theorem dX7_lesser_5 : decode cX7_lesser 5 = .ok (.invokestatic 80, 3) := by decide +kernel
theorem dX7_lesser_8 : decode cX7_lesser 8 = .ok (.lcmp, 1) := by decide +kernel
theorem dX7_lesser_9 : decode cX7_lesser 9 = .ok (.ifCond .ge 7, 3) := by decide +kernel
theorem dX7_lesser_12 : decode cX7_lesser 12 = .ok (.lload_n 0, 1) := by decide +kernel
theorem dX7_lesser_13 : decode cX7_lesser 13 = .ok (.goto 4, 3) := by decide +kernel
theorem dX7_lesser_16 : decode cX7_lesser 16 = .ok (.lload_n 2, 1) := by decide +kernel
theorem dX7_lesser_17 : decode cX7_lesser 17 = .ok (.lreturn, 1) := by decide +kernel
set_option maxRecDepth 20000 in
theorem ggX7_greater_X7_order : GoodIn wsX7_greater wsX7_order := goodIn_r _ [4, 5, 6, 7, 3, 8, 9] (by decide +kernel) (by decide +kernel)
set_option maxRecDepth 20000 in
theorem gX7_greater_X7_order : GoodIn wsX7_greater (va_wsS RX7 80 yX7_order wsX7_order) := goodIn_app (goodIn_of _ (by decide +kernel)) ggX7_greater_X7_order
theorem dX7_greater_0 : decode cX7_greater 0 = .ok (.lload_n 0, 1) := by decide +kernel
theorem dX7_greater_1 : decode cX7_greater 1 = .ok (.invokestatic 80, 3) := by decide +kernel
theorem dX7_greater_4 : decode cX7_greater 4 = .ok (.lload_n 2, 1) := by decide +kernel
theorem dX7_greater_5 : decode cX7_greater 5 = .ok (.invokestatic 80, 3) := by decide +kernel
theorem dX7_greater_8 : decode cX7_greater 8 = .ok (.lcmp, 1) := by decide +kernel
theorem dX7_greater_9 : decode cX7_greater 9 = .ok (.ifCond .le 7, 3) := by decide +kernel
theorem dX7_greater_12 : decode cX7_greater 12 = .ok (.lload_n 0, 1) := by decide +kernel
theorem dX7_greater_13 : decode cX7_greater 13 = .ok (.goto 4, 3) := by decide +kernel
theorem dX7_greater_16 : decode cX7_greater 16 = .ok (.lload_n 2, 1) := by decide +kernel
theorem dX7_greater_17 : decode cX7_greater 17 = .ok (.lreturn, 1) := by decide +kernel
set_option maxRecDepth 20000 in
theorem ggX7_isBelow_X7_order : GoodIn wsX7_isBelow wsX7_order := goodIn_r _ [4, 5, 6, 7, 3, 8, 9] (by decide +kernel) (by decide +kernel)
set_option maxRecDepth 20000 in
theorem gX7_isBelow_X7_order : GoodIn wsX7_isBelow (va_wsS RX7 80 yX7_order wsX7_order) := goodIn_app (goodIn_of _ (by decide +kernel)) ggX7_isBelow_X7_order
set_option maxRecDepth 20000 in
theorem ggX7_isBelow_X7_size : GoodIn wsX7_isBelow wsX7_size := goodIn_r _ [8, 9] (by decide +kernel) (by decide +kernel)
set_option maxRecDepth 20000 in
theorem gX7_isBelow_X7_size : GoodIn wsX7_isBelow (va_wsS RX7 74 yX7_size wsX7_size) := goodIn_app (goodIn_of _ (by decide +kernel)) ggX7_isBelow_X7_size
theorem dX7_isBelow_0 : decode cX7_isBelow 0 = .ok (.lload_n 0, 1) := by decide +kernel
theorem dX7_isBelow_1 : decode cX7_isBelow 1 = .ok (.invokestatic 80, 3) := by decide +kernel
theorem dX7_isBelow_4 : decode cX7_isBelow 4 = .ok (.lload_n 2, 1) := by decide +kernel
theorem dX7_isBelow_5 : decode cX7_isBelow 5 = .ok (.invokestatic 80, 3) := by decide +kernel
theorem dX7_isBelow_8 : decode cX7_isBelow 8 = .ok (.lcmp, 1) := by decide +kernel
theorem dX7_isBelow_9 : decode cX7_isBelow 9 = .ok (.ifCond .ge 25, 3) := by decide +kernel
theorem dX7_isBelow_12 : decode cX7_isBelow 12 = .ok (.lload_n 0, 1) := by decide +kernel
theorem dX7_isBelow_13 : decode cX7_isBelow 13 = .ok (.invokestatic 74, 3) := by decide +kernel
theorem dX7_isBelow_16 : decode cX7_isBelow 16 = .ok (.lconst 0, 1) := by decide +kernel
theorem dX7_isBelow_17 : decode cX7_isBelow 17 = .ok (.lcmp, 1) := by decide +kernel
theorem dX7_isBelow_18 : decode cX7_isBelow 18 = .ok (.ifCond .ne 12, 3) := by decide +kernel
theorem dX7_isBelow_21 : decode cX7_isBelow 21 = .ok (.lload_n 2, 1) := by decide +kernel
theorem dX7_isBelow_22 : decode cX7_isBelow 22 = .ok (.invokestatic 74, 3) := by decide +kernel
theorem dX7_isBelow_25 : decode cX7_isBelow 25 = .ok (.lconst 0, 1) := by decide +kernel
theorem dX7_isBelow_26 : decode cX7_isBelow 26 = .ok (.lcmp, 1) := by decide +kernel
theorem dX7_isBelow_27 : decode cX7_isBelow 27 = .ok (.ifCond .eq 7, 3) := by decide +kernel
theorem dX7_isBelow_30 : decode cX7_isBelow 30 = .ok (.iconst 1, 1) := by decide +kernel
theorem dX7_isBelow_31 : decode cX7_isBelow 31 = .ok (.goto 4, 3) := by decide +kernel
theorem dX7_isBelow_34 : decode cX7_isBelow 34 = .ok (.iconst 0, 1) := by decide +kernel
theorem dX7_isBelow_35 : decode cX7_isBelow 35 = .ok (.ireturn, 1) := by decide +kernel
set_option maxRecDepth 20000 in
theorem ggX7_whole_X7_size : GoodIn wsX7_whole wsX7_size := goodIn_r _ [8, 9] (by decide +kernel) (by decide +kernel)
set_option maxRecDepth 20000 in
theorem gX7_whole_X7_size : GoodIn wsX7_whole (va_wsS RX7 74 yX7_size wsX7_size) := goodIn_app (goodIn_of _ (by decide +kernel)) ggX7_whole_X7_size
set_option maxRecDepth 20000 in
theorem ggX7_whole_X7_isOdd : GoodIn wsX7_whole wsX7_isOdd := goodIn_r _ [12] (by decide +kernel) (by decide +kernel)
set_option maxRecDepth 20000 in
theorem gX7_whole_X7_isOdd : GoodIn wsX7_whole (va_wsS RX7 89 yX7_isOdd wsX7_isOdd) := goodIn_app (goodIn_of _ (by decide +kernel)) ggX7_whole_X7_isOdd
theorem dX7_whole_0 : decode cX7_whole 0 = .ok (.lload_n 0, 1) := by decide +kernel
theorem dX7_whole_1 : decode cX7_whole 1 = .ok (.invokestatic 74, 3) := by decide +kernel
theorem dX7_whole_4 : decode cX7_whole 4 = .ok (.bipush 52, 2) := by decide +kernel
theorem dX7_whole_6 : decode cX7_whole 6 = .ok (.lshr, 1) := by decide +kernel
theorem dX7_whole_7 : decode cX7_whole 7 = .ok (.l2i, 1) := by decide +kernel
theorem dX7_whole_8 : decode cX7_whole 8 = .ok (.sipush 1023, 3) := by decide +kernel
theorem dX7_whole_11 : decode cX7_whole 11 = .ok (.isub, 1) := by decide +kernel
theorem dX7_whole_12 : decode cX7_whole 12 = .ok (.istore_n 3, 1) := by decide +kernel
theorem dX7_whole_13 : decode cX7_whole 13 = .ok (.lload_n 0, 1) := by decide +kernel
theorem dX7_whole_14 : decode cX7_whole 14 = .ok (.ldc2_w 83, 3) := by decide +kernel
theorem dX7_whole_17 : decode cX7_whole 17 = .ok (.land, 1) := by decide +kernel
theorem dX7_whole_18 : decode cX7_whole 18 = .ok (.lstore 4, 2) := by decide +kernel
theorem dX7_whole_20 : decode cX7_whole 20 = .ok (.lload_n 0, 1) := by decide +kernel
theorem dX7_whole_21 : decode cX7_whole 21 = .ok (.invokestatic 74, 3) := by decide +kernel
theorem dX7_whole_24 : decode cX7_whole 24 = .ok (.lstore 6, 2) := by decide +kernel
theorem dX7_whole_26 : decode cX7_whole 26 = .ok (.iload_n 3, 1) := by decide +kernel
theorem dX7_whole_27 : decode cX7_whole 27 = .ok (.bipush 52, 2) := by decide +kernel
theorem dX7_whole_29 : decode cX7_whole 29 = .ok (.if_icmp .ge 10, 3) := by decide +kernel
theorem dX7_whole_32 : decode cX7_whole 32 = .ok (.lload 6, 2) := by decide +kernel
theorem dX7_whole_34 : decode cX7_whole 34 = .ok (.lconst 0, 1) := by decide +kernel
theorem dX7_whole_35 : decode cX7_whole 35 = .ok (.lcmp, 1) := by decide +kernel
theorem dX7_whole_36 : decode cX7_whole 36 = .ok (.ifCond .ne 5, 3) := by decide +kernel
theorem dX7_whole_39 : decode cX7_whole 39 = .ok (.lload_n 0, 1) := by decide +kernel
theorem dX7_whole_40 : decode cX7_whole 40 = .ok (.lreturn, 1) := by decide +kernel
theorem dX7_whole_41 : decode cX7_whole 41 = .ok (.iload_n 2, 1) := by decide +kernel
theorem dX7_whole_42 : decode cX7_whole 42 = .ok (.ifCond .ne 18, 3) := by decide +kernel
theorem dX7_whole_45 : decode cX7_whole 45 = .ok (.lload 4, 2) := by decide +kernel
theorem dX7_whole_47 : decode cX7_whole 47 = .ok (.lconst 0, 1) := by decide +kernel
theorem dX7_whole_48 : decode cX7_whole 48 = .ok (.lcmp, 1) := by decide +kernel
theorem dX7_whole_49 : decode cX7_whole 49 = .ok (.ifCond .eq 7, 3) := by decide +kernel
theorem dX7_whole_52 : decode cX7_whole 52 = .ok (.iconst 1, 1) := by decide +kernel
theorem dX7_whole_53 : decode cX7_whole 53 = .ok (.goto 24, 3) := by decide +kernel
theorem dX7_whole_56 : decode cX7_whole 56 = .ok (.iconst 0, 1) := by decide +kernel
theorem dX7_whole_57 : decode cX7_whole 57 = .ok (.goto 20, 3) := by decide +kernel
theorem dX7_whole_60 : decode cX7_whole 60 = .ok (.iload_n 2, 1) := by decide +kernel
theorem dX7_whole_61 : decode cX7_whole 61 = .ok (.iconst 1, 1) := by decide +kernel
theorem dX7_whole_62 : decode cX7_whole 62 = .ok (.if_icmp .ne 14, 3) := by decide +kernel
theorem dX7_whole_65 : decode cX7_whole 65 = .ok (.lload 4, 2) := by decide +kernel
theorem dX7_whole_67 : decode cX7_whole 67 = .ok (.lconst 0, 1) := by decide +kernel
theorem dX7_whole_68 : decode cX7_whole 68 = .ok (.lcmp, 1) := by decide +kernel
theorem dX7_whole_69 : decode cX7_whole 69 = .ok (.ifCond .ne 7, 3) := by decide +kernel
theorem dX7_whole_72 : decode cX7_whole 72 = .ok (.iconst 1, 1) := by decide +kernel
theorem dX7_whole_73 : decode cX7_whole 73 = .ok (.goto 4, 3) := by decide +kernel
theorem dX7_whole_76 : decode cX7_whole 76 = .ok (.iconst 0, 1) := by decide +kernel
