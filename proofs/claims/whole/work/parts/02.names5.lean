set_option maxRecDepth 20000 in
theorem gX7_pull_X7_greater4 : GoodIn wsX7_pull (va_wsS RX7 136 yX7_greater4 wsX7_greater4) := goodIn_app (goodIn_of _ (by decide +kernel)) ggX7_pull_X7_greater4
set_option maxRecDepth 20000 in
theorem ggX7_pull_X7_lesser4 : GoodIn wsX7_pull wsX7_lesser4 := goodIn_r _ [46, 37, 38, 5, 39, 40, 41, 42, 43] (by decide +kernel) (by decide +kernel)
set_option maxRecDepth 20000 in
theorem gX7_pull_X7_lesser4 : GoodIn wsX7_pull (va_wsS RX7 132 yX7_lesser4 wsX7_lesser4) := goodIn_app (goodIn_of _ (by decide +kernel)) ggX7_pull_X7_lesser4
set_option maxRecDepth 20000 in
theorem ggX7_pull_X7_does : GoodIn wsX7_pull wsX7_does := goodIn_r _ [50, 51, 52, 53, 54, 55, 56, 57, 58, 59, 60, 61, 62, 63, 64, 65, 66, 67, 68] (by decide +kernel) (by decide +kernel)
set_option maxRecDepth 20000 in
theorem gX7_pull_X7_does : GoodIn wsX7_pull (wsV RX7 166 RX7 yX7_does wsX7_does) := goodIn_app (goodIn_of _ (by decide +kernel)) ggX7_pull_X7_does
theorem dX7_pull_0 : decode cX7_pull 0 = .ok (.iload_n 1, 1) := by decide +kernel
theorem dX7_pull_1 : decode cX7_pull 1 = .ok (.invokestatic 170, 3) := by decide +kernel
theorem dX7_pull_4 : decode cX7_pull 4 = .ok (.ifCond .eq 19, 3) := by decide +kernel
theorem dX7_pull_7 : decode cX7_pull 7 = .ok (.iload_n 2, 1) := by decide +kernel
theorem dX7_pull_8 : decode cX7_pull 8 = .ok (.invokestatic 170, 3) := by decide +kernel
theorem dX7_pull_11 : decode cX7_pull 11 = .ok (.ifCond .eq 12, 3) := by decide +kernel
theorem dX7_pull_14 : decode cX7_pull 14 = .ok (.iload_n 3, 1) := by decide +kernel
theorem dX7_pull_15 : decode cX7_pull 15 = .ok (.ifCond .lt 8, 3) := by decide +kernel
theorem dX7_pull_18 : decode cX7_pull 18 = .ok (.iload_n 3, 1) := by decide +kernel
theorem dX7_pull_19 : decode cX7_pull 19 = .ok (.iconst 1, 1) := by decide +kernel
theorem dX7_pull_20 : decode cX7_pull 20 = .ok (.if_icmp .le 9, 3) := by decide +kernel
theorem dX7_pull_23 : decode cX7_pull 23 = .ok (.aload_n 0, 1) := by decide +kernel
theorem dX7_pull_24 : decode cX7_pull 24 = .ok (.iconst 1, 1) := by decide +kernel
theorem dX7_pull_25 : decode cX7_pull 25 = .ok (.invokevirtual 156, 3) := by decide +kernel
theorem dX7_pull_28 : decode cX7_pull 28 = .ok (.ireturn, 1) := by decide +kernel
theorem dX7_pull_29 : decode cX7_pull 29 = .ok (.aload_n 0, 1) := by decide +kernel
theorem dX7_pull_30 : decode cX7_pull 30 = .ok (.iload_n 1, 1) := by decide +kernel
theorem dX7_pull_31 : decode cX7_pull 31 = .ok (.invokevirtual 159, 3) := by decide +kernel
theorem dX7_pull_34 : decode cX7_pull 34 = .ok (.aload_n 0, 1) := by decide +kernel
theorem dX7_pull_35 : decode cX7_pull 35 = .ok (.getfield 7, 3) := by decide +kernel
theorem dX7_pull_38 : decode cX7_pull 38 = .ok (.iload_n 1, 1) := by decide +kernel
theorem dX7_pull_39 : decode cX7_pull 39 = .ok (.iload_n 3, 1) := by decide +kernel
theorem dX7_pull_40 : decode cX7_pull 40 = .ok (.ifCond .ne 21, 3) := by decide +kernel
theorem dX7_pull_43 : decode cX7_pull 43 = .ok (.aload_n 0, 1) := by decide +kernel
theorem dX7_pull_44 : decode cX7_pull 44 = .ok (.getfield 7, 3) := by decide +kernel
theorem dX7_pull_47 : decode cX7_pull 47 = .ok (.iload_n 1, 1) := by decide +kernel
theorem dX7_pull_48 : decode cX7_pull 48 = .ok (.laload, 1) := by decide +kernel
theorem dX7_pull_49 : decode cX7_pull 49 = .ok (.aload_n 0, 1) := by decide +kernel
theorem dX7_pull_50 : decode cX7_pull 50 = .ok (.getfield 7, 3) := by decide +kernel
theorem dX7_pull_53 : decode cX7_pull 53 = .ok (.iload_n 2, 1) := by decide +kernel
theorem dX7_pull_54 : decode cX7_pull 54 = .ok (.laload, 1) := by decide +kernel
theorem dX7_pull_55 : decode cX7_pull 55 = .ok (.invokestatic 129, 3) := by decide +kernel
theorem dX7_pull_58 : decode cX7_pull 58 = .ok (.goto 18, 3) := by decide +kernel
theorem dX7_pull_61 : decode cX7_pull 61 = .ok (.aload_n 0, 1) := by decide +kernel
theorem dX7_pull_62 : decode cX7_pull 62 = .ok (.getfield 7, 3) := by decide +kernel
theorem dX7_pull_65 : decode cX7_pull 65 = .ok (.iload_n 1, 1) := by decide +kernel
theorem dX7_pull_66 : decode cX7_pull 66 = .ok (.laload, 1) := by decide +kernel
theorem dX7_pull_67 : decode cX7_pull 67 = .ok (.aload_n 0, 1) := by decide +kernel
theorem dX7_pull_68 : decode cX7_pull 68 = .ok (.getfield 7, 3) := by decide +kernel
theorem dX7_pull_71 : decode cX7_pull 71 = .ok (.iload_n 2, 1) := by decide +kernel
theorem dX7_pull_72 : decode cX7_pull 72 = .ok (.laload, 1) := by decide +kernel
theorem dX7_pull_73 : decode cX7_pull 73 = .ok (.invokestatic 125, 3) := by decide +kernel
theorem dX7_pull_76 : decode cX7_pull 76 = .ok (.lastore, 1) := by decide +kernel
theorem dX7_pull_77 : decode cX7_pull 77 = .ok (.aload_n 0, 1) := by decide +kernel
theorem dX7_pull_78 : decode cX7_pull 78 = .ok (.getfield 13, 3) := by decide +kernel
theorem dX7_pull_81 : decode cX7_pull 81 = .ok (.iload_n 1, 1) := by decide +kernel
theorem dX7_pull_82 : decode cX7_pull 82 = .ok (.iload_n 3, 1) := by decide +kernel
theorem dX7_pull_83 : decode cX7_pull 83 = .ok (.ifCond .ne 21, 3) := by decide +kernel
theorem dX7_pull_86 : decode cX7_pull 86 = .ok (.aload_n 0, 1) := by decide +kernel
theorem dX7_pull_87 : decode cX7_pull 87 = .ok (.getfield 13, 3) := by decide +kernel
theorem dX7_pull_90 : decode cX7_pull 90 = .ok (.iload_n 1, 1) := by decide +kernel
theorem dX7_pull_91 : decode cX7_pull 91 = .ok (.iaload, 1) := by decide +kernel
theorem dX7_pull_92 : decode cX7_pull 92 = .ok (.aload_n 0, 1) := by decide +kernel
theorem dX7_pull_93 : decode cX7_pull 93 = .ok (.getfield 13, 3) := by decide +kernel
theorem dX7_pull_96 : decode cX7_pull 96 = .ok (.iload_n 2, 1) := by decide +kernel
theorem dX7_pull_97 : decode cX7_pull 97 = .ok (.iaload, 1) := by decide +kernel
theorem dX7_pull_98 : decode cX7_pull 98 = .ok (.invokestatic 136, 3) := by decide +kernel
theorem dX7_pull_101 : decode cX7_pull 101 = .ok (.goto 18, 3) := by decide +kernel
theorem dX7_pull_104 : decode cX7_pull 104 = .ok (.aload_n 0, 1) := by decide +kernel
theorem dX7_pull_105 : decode cX7_pull 105 = .ok (.getfield 13, 3) := by decide +kernel
theorem dX7_pull_108 : decode cX7_pull 108 = .ok (.iload_n 1, 1) := by decide +kernel
theorem dX7_pull_109 : decode cX7_pull 109 = .ok (.iaload, 1) := by decide +kernel
theorem dX7_pull_110 : decode cX7_pull 110 = .ok (.aload_n 0, 1) := by decide +kernel
theorem dX7_pull_111 : decode cX7_pull 111 = .ok (.getfield 13, 3) := by decide +kernel
theorem dX7_pull_114 : decode cX7_pull 114 = .ok (.iload_n 2, 1) := by decide +kernel
theorem dX7_pull_115 : decode cX7_pull 115 = .ok (.iaload, 1) := by decide +kernel
theorem dX7_pull_116 : decode cX7_pull 116 = .ok (.invokestatic 132, 3) := by decide +kernel
theorem dX7_pull_119 : decode cX7_pull 119 = .ok (.iastore, 1) := by decide +kernel
theorem dX7_pull_120 : decode cX7_pull 120 = .ok (.aload_n 0, 1) := by decide +kernel
theorem dX7_pull_121 : decode cX7_pull 121 = .ok (.invokevirtual 166, 3) := by decide +kernel
theorem dX7_pull_124 : decode cX7_pull 124 = .ok (.ireturn, 1) := by decide +kernel
set_option maxRecDepth 20000 in
theorem ggX7_swing_X7_isPoint : GoodIn wsX7_swing wsX7_isPoint := goodIn_r _ [7] (by decide +kernel) (by decide +kernel)
set_option maxRecDepth 20000 in
theorem gX7_swing_X7_isPoint : GoodIn wsX7_swing (va_wsS RX7 170 yX7_isPoint wsX7_isPoint) := goodIn_app (goodIn_of _ (by decide +kernel)) ggX7_swing_X7_isPoint
set_option maxRecDepth 20000 in
theorem ggX7_swing_X7_refuses : GoodIn wsX7_swing wsX7_refuses := goodIn_r _ [11, 12, 102, 103, 104, 105, 106, 107, 108, 109, 110, 111, 112, 113, 114, 115, 116, 117, 118] (by decide +kernel) (by decide +kernel)
set_option maxRecDepth 20000 in
theorem gX7_swing_X7_refuses : GoodIn wsX7_swing (wsV RX7 156 RX7 yX7_refuses wsX7_refuses) := goodIn_app (goodIn_of _ (by decide +kernel)) ggX7_swing_X7_refuses
set_option maxRecDepth 20000 in
theorem ggX7_swing_X7_isNone : GoodIn wsX7_swing wsX7_isNone := goodIn_r _ [15, 16, 17, 18, 6, 19, 20] (by decide +kernel) (by decide +kernel)
set_option maxRecDepth 20000 in
theorem gX7_swing_X7_isNone : GoodIn wsX7_swing (va_wsS RX7 173 yX7_isNone wsX7_isNone) := goodIn_app (goodIn_of _ (by decide +kernel)) ggX7_swing_X7_isNone
set_option maxRecDepth 20000 in
theorem ggX7_swing_X7_isInfinite : GoodIn wsX7_swing wsX7_isInfinite := goodIn_r _ [23, 16, 17, 18, 6, 19, 20] (by decide +kernel) (by decide +kernel)
set_option maxRecDepth 20000 in
theorem gX7_swing_X7_isInfinite : GoodIn wsX7_swing (va_wsS RX7 148 yX7_isInfinite wsX7_isInfinite) := goodIn_app (goodIn_of _ (by decide +kernel)) ggX7_swing_X7_isInfinite
set_option maxRecDepth 20000 in
theorem ggX7_swing_X7_of : GoodIn wsX7_swing wsX7_of := goodIn_r _ [26, 27, 28, 29, 30] (by decide +kernel) (by decide +kernel)
set_option maxRecDepth 20000 in
theorem gX7_swing_X7_of : GoodIn wsX7_swing (va_wsS RX7 191 yX7_of wsX7_of) := goodIn_app (goodIn_of _ (by decide +kernel)) ggX7_swing_X7_of
set_option maxRecDepth 20000 in
theorem ggX7_swing_X7_bits : GoodIn wsX7_swing wsX7_bits := goodIn_r _ [33, 34, 35, 36, 37, 38, 39, 40, 30, 41, 42, 43, 44] (by decide +kernel) (by decide +kernel)
set_option maxRecDepth 20000 in
theorem gX7_swing_X7_bits : GoodIn wsX7_swing (va_wsS RX7 194 yX7_bits wsX7_bits) := goodIn_app (goodIn_of _ (by decide +kernel)) ggX7_swing_X7_bits
set_option maxRecDepth 20000 in
theorem ggX7_swing_X7_comes : GoodIn wsX7_swing wsX7_comes := goodIn_r _ [48, 49, 1, 2, 50, 51, 52, 6, 53, 54, 55, 56, 57, 58, 59, 60, 61, 62, 17, 18, 19, 20, 63, 64, 65, 66, 67, 68, 69, 70, 71, 72, 73, 74, 75, 76, 77, 78, 79, 80, 81, 82, 83, 84, 21, 22, 23, 16, 85, 86, 87, 88, 8, 9, 10, 11, 12, 89, 90, 91, 92, 93, 94, 95, 96, 97, 98, 99, 100, 101, 102, 103, 104, 105, 106, 107, 108, 109, 110, 111, 112, 113, 114, 115, 116, 117, 118] (by decide +kernel) (by decide +kernel)
set_option maxRecDepth 20000 in
theorem gX7_swing_X7_comes : GoodIn wsX7_swing (wsV RX7 179 RX7 yX7_comes wsX7_comes) := goodIn_app (goodIn_of _ (by decide +kernel)) ggX7_swing_X7_comes
theorem dX7_swing_0 : decode cX7_swing 0 = .ok (.iload_n 1, 1) := by decide +kernel
theorem dX7_swing_1 : decode cX7_swing 1 = .ok (.invokestatic 170, 3) := by decide +kernel
theorem dX7_swing_4 : decode cX7_swing 4 = .ok (.ifCond .ne 9, 3) := by decide +kernel
theorem dX7_swing_7 : decode cX7_swing 7 = .ok (.aload_n 0, 1) := by decide +kernel
theorem dX7_swing_8 : decode cX7_swing 8 = .ok (.iconst 1, 1) := by decide +kernel
theorem dX7_swing_9 : decode cX7_swing 9 = .ok (.invokevirtual 156, 3) := by decide +kernel
theorem dX7_swing_12 : decode cX7_swing 12 = .ok (.ireturn, 1) := by decide +kernel
theorem dX7_swing_13 : decode cX7_swing 13 = .ok (.lload_n 2, 1) := by decide +kernel
theorem dX7_swing_14 : decode cX7_swing 14 = .ok (.invokestatic 173, 3) := by decide +kernel
theorem dX7_swing_17 : decode cX7_swing 17 = .ok (.ifCond .eq 9, 3) := by decide +kernel
theorem dX7_swing_20 : decode cX7_swing 20 = .ok (.aload_n 0, 1) := by decide +kernel
theorem dX7_swing_21 : decode cX7_swing 21 = .ok (.iconst 2, 1) := by decide +kernel
theorem dX7_swing_22 : decode cX7_swing 22 = .ok (.invokevirtual 156, 3) := by decide +kernel
theorem dX7_swing_25 : decode cX7_swing 25 = .ok (.ireturn, 1) := by decide +kernel
theorem dX7_swing_26 : decode cX7_swing 26 = .ok (.lload_n 2, 1) := by decide +kernel
theorem dX7_swing_27 : decode cX7_swing 27 = .ok (.invokestatic 148, 3) := by decide +kernel
theorem dX7_swing_30 : decode cX7_swing 30 = .ok (.ifCond .eq 9, 3) := by decide +kernel
theorem dX7_swing_33 : decode cX7_swing 33 = .ok (.aload_n 0, 1) := by decide +kernel
theorem dX7_swing_34 : decode cX7_swing 34 = .ok (.iconst 3, 1) := by decide +kernel
theorem dX7_swing_35 : decode cX7_swing 35 = .ok (.invokevirtual 156, 3) := by decide +kernel
theorem dX7_swing_38 : decode cX7_swing 38 = .ok (.ireturn, 1) := by decide +kernel
theorem dX7_swing_39 : decode cX7_swing 39 = .ok (.aload_n 0, 1) := by decide +kernel
theorem dX7_swing_40 : decode cX7_swing 40 = .ok (.iload_n 1, 1) := by decide +kernel
theorem dX7_swing_41 : decode cX7_swing 41 = .ok (.lload_n 2, 1) := by decide +kernel
theorem dX7_swing_42 : decode cX7_swing 42 = .ok (.invokestatic 191, 3) := by decide +kernel
theorem dX7_swing_45 : decode cX7_swing 45 = .ok (.lload_n 2, 1) := by decide +kernel
theorem dX7_swing_46 : decode cX7_swing 46 = .ok (.invokestatic 191, 3) := by decide +kernel
theorem dX7_swing_49 : decode cX7_swing 49 = .ok (.dadd, 1) := by decide +kernel
theorem dX7_swing_50 : decode cX7_swing 50 = .ok (.aload_n 0, 1) := by decide +kernel
theorem dX7_swing_51 : decode cX7_swing 51 = .ok (.getfield 7, 3) := by decide +kernel
theorem dX7_swing_54 : decode cX7_swing 54 = .ok (.iload_n 1, 1) := by decide +kernel
theorem dX7_swing_55 : decode cX7_swing 55 = .ok (.laload, 1) := by decide +kernel
theorem dX7_swing_56 : decode cX7_swing 56 = .ok (.invokestatic 191, 3) := by decide +kernel
theorem dX7_swing_59 : decode cX7_swing 59 = .ok (.dsub, 1) := by decide +kernel
theorem dX7_swing_60 : decode cX7_swing 60 = .ok (.invokestatic 194, 3) := by decide +kernel
theorem dX7_swing_63 : decode cX7_swing 63 = .ok (.aload_n 0, 1) := by decide +kernel
theorem dX7_swing_64 : decode cX7_swing 64 = .ok (.getfield 13, 3) := by decide +kernel
theorem dX7_swing_67 : decode cX7_swing 67 = .ok (.iload_n 1, 1) := by decide +kernel
theorem dX7_swing_68 : decode cX7_swing 68 = .ok (.iaload, 1) := by decide +kernel
theorem dX7_swing_69 : decode cX7_swing 69 = .ok (.ldc 98, 2) := by decide +kernel
theorem dX7_swing_71 : decode cX7_swing 71 = .ok (.ixor, 1) := by decide +kernel
theorem dX7_swing_72 : decode cX7_swing 72 = .ok (.invokevirtual 179, 3) := by decide +kernel
theorem dX7_swing_75 : decode cX7_swing 75 = .ok (.ireturn, 1) := by decide +kernel
set_option maxRecDepth 20000 in
theorem ggX7_guide_X7_refuses : GoodIn wsX7_guide wsX7_refuses := goodIn_r _ [7, 8, 25, 26, 27, 28, 29, 30, 31, 32, 33, 34, 35, 36, 37, 38, 39, 40, 41] (by decide +kernel) (by decide +kernel)
set_option maxRecDepth 20000 in
theorem gX7_guide_X7_refuses : GoodIn wsX7_guide (wsV RX7 156 RX7 yX7_refuses wsX7_refuses) := goodIn_app (goodIn_of _ (by decide +kernel)) ggX7_guide_X7_refuses
set_option maxRecDepth 20000 in
theorem ggX7_guide_X7_isNone : GoodIn wsX7_guide wsX7_isNone := goodIn_r _ [11, 12, 13, 14, 6, 15, 16] (by decide +kernel) (by decide +kernel)
set_option maxRecDepth 20000 in
theorem gX7_guide_X7_isNone : GoodIn wsX7_guide (va_wsS RX7 173 yX7_isNone wsX7_isNone) := goodIn_app (goodIn_of _ (by decide +kernel)) ggX7_guide_X7_isNone
set_option maxRecDepth 20000 in
theorem ggX7_guide_X7_isInfinite : GoodIn wsX7_guide wsX7_isInfinite := goodIn_r _ [19, 12, 13, 14, 6, 15, 16] (by decide +kernel) (by decide +kernel)
set_option maxRecDepth 20000 in
theorem gX7_guide_X7_isInfinite : GoodIn wsX7_guide (va_wsS RX7 148 yX7_isInfinite wsX7_isInfinite) := goodIn_app (goodIn_of _ (by decide +kernel)) ggX7_guide_X7_isInfinite
set_option maxRecDepth 20000 in
theorem ggX7_guide_X7_does : GoodIn wsX7_guide wsX7_does := goodIn_r _ [23, 24, 25, 26, 27, 28, 29, 30, 31, 32, 33, 34, 35, 36, 37, 38, 39, 40, 41] (by decide +kernel) (by decide +kernel)
set_option maxRecDepth 20000 in
theorem gX7_guide_X7_does : GoodIn wsX7_guide (wsV RX7 166 RX7 yX7_does wsX7_does) := goodIn_app (goodIn_of _ (by decide +kernel)) ggX7_guide_X7_does
theorem dX7_guide_0 : decode cX7_guide 0 = .ok (.iload_n 1, 1) := by decide +kernel
theorem dX7_guide_1 : decode cX7_guide 1 = .ok (.ifCond .lt 8, 3) := by decide +kernel
theorem dX7_guide_4 : decode cX7_guide 4 = .ok (.iload_n 1, 1) := by decide +kernel
theorem dX7_guide_5 : decode cX7_guide 5 = .ok (.iconst 4, 1) := by decide +kernel
theorem dX7_guide_6 : decode cX7_guide 6 = .ok (.if_icmp .lt 9, 3) := by decide +kernel
theorem dX7_guide_9 : decode cX7_guide 9 = .ok (.aload_n 0, 1) := by decide +kernel
theorem dX7_guide_10 : decode cX7_guide 10 = .ok (.iconst 1, 1) := by decide +kernel
theorem dX7_guide_11 : decode cX7_guide 11 = .ok (.invokevirtual 156, 3) := by decide +kernel
theorem dX7_guide_14 : decode cX7_guide 14 = .ok (.ireturn, 1) := by decide +kernel
theorem dX7_guide_15 : decode cX7_guide 15 = .ok (.lload_n 2, 1) := by decide +kernel
theorem dX7_guide_16 : decode cX7_guide 16 = .ok (.invokestatic 173, 3) := by decide +kernel
theorem dX7_guide_19 : decode cX7_guide 19 = .ok (.ifCond .eq 9, 3) := by decide +kernel
theorem dX7_guide_22 : decode cX7_guide 22 = .ok (.aload_n 0, 1) := by decide +kernel
theorem dX7_guide_23 : decode cX7_guide 23 = .ok (.iconst 2, 1) := by decide +kernel
theorem dX7_guide_24 : decode cX7_guide 24 = .ok (.invokevirtual 156, 3) := by decide +kernel
theorem dX7_guide_27 : decode cX7_guide 27 = .ok (.ireturn, 1) := by decide +kernel
theorem dX7_guide_28 : decode cX7_guide 28 = .ok (.aload_n 0, 1) := by decide +kernel
theorem dX7_guide_29 : decode cX7_guide 29 = .ok (.getfield 49, 3) := by decide +kernel
theorem dX7_guide_32 : decode cX7_guide 32 = .ok (.iload_n 1, 1) := by decide +kernel
theorem dX7_guide_33 : decode cX7_guide 33 = .ok (.lload_n 2, 1) := by decide +kernel
theorem dX7_guide_34 : decode cX7_guide 34 = .ok (.invokestatic 148, 3) := by decide +kernel
theorem dX7_guide_37 : decode cX7_guide 37 = .ok (.ifCond .ne 7, 3) := by decide +kernel
theorem dX7_guide_40 : decode cX7_guide 40 = .ok (.iconst 1, 1) := by decide +kernel
theorem dX7_guide_41 : decode cX7_guide 41 = .ok (.goto 4, 3) := by decide +kernel
theorem dX7_guide_44 : decode cX7_guide 44 = .ok (.iconst 0, 1) := by decide +kernel
theorem dX7_guide_45 : decode cX7_guide 45 = .ok (.bastore, 1) := by decide +kernel
theorem dX7_guide_46 : decode cX7_guide 46 = .ok (.aload_n 0, 1) := by decide +kernel
theorem dX7_guide_47 : decode cX7_guide 47 = .ok (.getfield 46, 3) := by decide +kernel
theorem dX7_guide_50 : decode cX7_guide 50 = .ok (.iload_n 1, 1) := by decide +kernel
theorem dX7_guide_51 : decode cX7_guide 51 = .ok (.lload_n 2, 1) := by decide +kernel
theorem dX7_guide_52 : decode cX7_guide 52 = .ok (.lastore, 1) := by decide +kernel
theorem dX7_guide_53 : decode cX7_guide 53 = .ok (.aload_n 0, 1) := by decide +kernel
theorem dX7_guide_54 : decode cX7_guide 54 = .ok (.invokevirtual 166, 3) := by decide +kernel
theorem dX7_guide_57 : decode cX7_guide 57 = .ok (.ireturn, 1) := by decide +kernel
set_option maxRecDepth 20000 in
theorem ggX7_stick_X7_isPoint : GoodIn wsX7_stick wsX7_isPoint := goodIn_r _ [8] (by decide +kernel) (by decide +kernel)
set_option maxRecDepth 20000 in
theorem gX7_stick_X7_isPoint : GoodIn wsX7_stick (va_wsS RX7 170 yX7_isPoint wsX7_isPoint) := goodIn_app (goodIn_of _ (by decide +kernel)) ggX7_stick_X7_isPoint
set_option maxRecDepth 20000 in
theorem ggX7_stick_X7_refuses : GoodIn wsX7_stick wsX7_refuses := goodIn_r _ [12, 13, 106, 107, 108, 109, 110, 111, 112, 113, 114, 115, 116, 117, 118, 119, 120, 121, 122] (by decide +kernel) (by decide +kernel)
set_option maxRecDepth 20000 in
theorem gX7_stick_X7_refuses : GoodIn wsX7_stick (wsV RX7 156 RX7 yX7_refuses wsX7_refuses) := goodIn_app (goodIn_of _ (by decide +kernel)) ggX7_stick_X7_refuses
set_option maxRecDepth 20000 in
theorem ggX7_stick_X7_isNone : GoodIn wsX7_stick wsX7_isNone := goodIn_r _ [16, 17, 18, 19, 7, 20, 21] (by decide +kernel) (by decide +kernel)
set_option maxRecDepth 20000 in
theorem gX7_stick_X7_isNone : GoodIn wsX7_stick (va_wsS RX7 173 yX7_isNone wsX7_isNone) := goodIn_app (goodIn_of _ (by decide +kernel)) ggX7_stick_X7_isNone
set_option maxRecDepth 20000 in
theorem ggX7_stick_X7_isBelow : GoodIn wsX7_stick wsX7_isBelow := goodIn_r _ [24, 25, 26, 7, 27, 28, 18, 19, 20, 21] (by decide +kernel) (by decide +kernel)
set_option maxRecDepth 20000 in
theorem gX7_stick_X7_isBelow : GoodIn wsX7_stick (va_wsS RX7 183 yX7_isBelow wsX7_isBelow) := goodIn_app (goodIn_of _ (by decide +kernel)) ggX7_stick_X7_isBelow
set_option maxRecDepth 20000 in
theorem ggX7_stick_X7_of : GoodIn wsX7_stick wsX7_of := goodIn_r _ [31, 32, 33, 34, 35] (by decide +kernel) (by decide +kernel)
set_option maxRecDepth 20000 in
theorem gX7_stick_X7_of : GoodIn wsX7_stick (va_wsS RX7 191 yX7_of wsX7_of) := goodIn_app (goodIn_of _ (by decide +kernel)) ggX7_stick_X7_of
set_option maxRecDepth 20000 in
theorem ggX7_stick_X7_bits : GoodIn wsX7_stick wsX7_bits := goodIn_r _ [38, 39, 40, 41, 42, 43, 44, 45, 35, 46, 47, 48, 49] (by decide +kernel) (by decide +kernel)
set_option maxRecDepth 20000 in
theorem gX7_stick_X7_bits : GoodIn wsX7_stick (va_wsS RX7 194 yX7_bits wsX7_bits) := goodIn_app (goodIn_of _ (by decide +kernel)) ggX7_stick_X7_bits
set_option maxRecDepth 20000 in
theorem ggX7_stick_X7_size : GoodIn wsX7_stick wsX7_size := goodIn_r _ [20, 21] (by decide +kernel) (by decide +kernel)
set_option maxRecDepth 20000 in
theorem gX7_stick_X7_size : GoodIn wsX7_stick (va_wsS RX7 74 yX7_size wsX7_size) := goodIn_app (goodIn_of _ (by decide +kernel)) ggX7_stick_X7_size
set_option maxRecDepth 20000 in
theorem ggX7_stick_X7_comes : GoodIn wsX7_stick wsX7_comes := goodIn_r _ [53, 54, 2, 4, 55, 56, 57, 7, 58, 59, 60, 61, 62, 63, 25, 26, 27, 28, 18, 19, 20, 21, 64, 65, 66, 67, 68, 69, 70, 71, 72, 73, 74, 75, 76, 77, 78, 79, 80, 81, 82, 83, 84, 85, 86, 87, 88, 17, 89, 90, 91, 92, 9, 10, 11, 12, 13, 93, 94, 95, 96, 97, 98, 99, 100, 101, 102, 103, 104, 105, 106, 107, 108, 109, 110, 111, 112, 113, 114, 115, 116, 117, 118, 119, 120, 121, 122] (by decide +kernel) (by decide +kernel)
set_option maxRecDepth 20000 in
theorem gX7_stick_X7_comes : GoodIn wsX7_stick (wsV RX7 179 RX7 yX7_comes wsX7_comes) := goodIn_app (goodIn_of _ (by decide +kernel)) ggX7_stick_X7_comes
theorem dX7_stick_0 : decode cX7_stick 0 = .ok (.iload_n 1, 1) := by decide +kernel
theorem dX7_stick_1 : decode cX7_stick 1 = .ok (.invokestatic 170, 3) := by decide +kernel
theorem dX7_stick_4 : decode cX7_stick 4 = .ok (.ifCond .ne 9, 3) := by decide +kernel
theorem dX7_stick_7 : decode cX7_stick 7 = .ok (.aload_n 0, 1) := by decide +kernel
theorem dX7_stick_8 : decode cX7_stick 8 = .ok (.iconst 1, 1) := by decide +kernel
theorem dX7_stick_9 : decode cX7_stick 9 = .ok (.invokevirtual 156, 3) := by decide +kernel
theorem dX7_stick_12 : decode cX7_stick 12 = .ok (.ireturn, 1) := by decide +kernel
theorem dX7_stick_13 : decode cX7_stick 13 = .ok (.lload_n 2, 1) := by decide +kernel
theorem dX7_stick_14 : decode cX7_stick 14 = .ok (.invokestatic 173, 3) := by decide +kernel
theorem dX7_stick_17 : decode cX7_stick 17 = .ok (.ifCond .eq 9, 3) := by decide +kernel
theorem dX7_stick_20 : decode cX7_stick 20 = .ok (.aload_n 0, 1) := by decide +kernel
theorem dX7_stick_21 : decode cX7_stick 21 = .ok (.iconst 2, 1) := by decide +kernel
theorem dX7_stick_22 : decode cX7_stick 22 = .ok (.invokevirtual 156, 3) := by decide +kernel
theorem dX7_stick_25 : decode cX7_stick 25 = .ok (.ireturn, 1) := by decide +kernel
theorem dX7_stick_26 : decode cX7_stick 26 = .ok (.lload_n 2, 1) := by decide +kernel
theorem dX7_stick_27 : decode cX7_stick 27 = .ok (.lconst 0, 1) := by decide +kernel
theorem dX7_stick_28 : decode cX7_stick 28 = .ok (.invokestatic 183, 3) := by decide +kernel
theorem dX7_stick_31 : decode cX7_stick 31 = .ok (.ifCond .eq 9, 3) := by decide +kernel
theorem dX7_stick_34 : decode cX7_stick 34 = .ok (.aload_n 0, 1) := by decide +kernel
theorem dX7_stick_35 : decode cX7_stick 35 = .ok (.iconst 4, 1) := by decide +kernel
theorem dX7_stick_36 : decode cX7_stick 36 = .ok (.invokevirtual 156, 3) := by decide +kernel
theorem dX7_stick_39 : decode cX7_stick 39 = .ok (.ireturn, 1) := by decide +kernel
theorem dX7_stick_40 : decode cX7_stick 40 = .ok (.iconst (-1), 1) := by decide +kernel
theorem dX7_stick_41 : decode cX7_stick 41 = .ok (.istore 4, 2) := by decide +kernel
theorem dX7_stick_43 : decode cX7_stick 43 = .ok (.lconst 0, 1) := by decide +kernel
theorem dX7_stick_44 : decode cX7_stick 44 = .ok (.lstore 5, 2) := by decide +kernel
theorem dX7_stick_46 : decode cX7_stick 46 = .ok (.iconst 0, 1) := by decide +kernel
theorem dX7_stick_47 : decode cX7_stick 47 = .ok (.istore 7, 2) := by decide +kernel
theorem dX7_stick_49 : decode cX7_stick 49 = .ok (.iload 7, 2) := by decide +kernel
theorem dX7_stick_51 : decode cX7_stick 51 = .ok (.iconst 4, 1) := by decide +kernel
theorem dX7_stick_52 : decode cX7_stick 52 = .ok (.if_icmp .ge 75, 3) := by decide +kernel
theorem dX7_stick_55 : decode cX7_stick 55 = .ok (.aload_n 0, 1) := by decide +kernel
theorem dX7_stick_56 : decode cX7_stick 56 = .ok (.getfield 49, 3) := by decide +kernel
theorem dX7_stick_59 : decode cX7_stick 59 = .ok (.iload 7, 2) := by decide +kernel
theorem dX7_stick_61 : decode cX7_stick 61 = .ok (.baload, 1) := by decide +kernel
theorem dX7_stick_62 : decode cX7_stick 62 = .ok (.ifCond .ne 6, 3) := by decide +kernel
theorem dX7_stick_65 : decode cX7_stick 65 = .ok (.goto 56, 3) := by decide +kernel
theorem dX7_stick_68 : decode cX7_stick 68 = .ok (.aload_n 0, 1) := by decide +kernel
theorem dX7_stick_69 : decode cX7_stick 69 = .ok (.getfield 7, 3) := by decide +kernel
theorem dX7_stick_72 : decode cX7_stick 72 = .ok (.iload_n 1, 1) := by decide +kernel
theorem dX7_stick_73 : decode cX7_stick 73 = .ok (.laload, 1) := by decide +kernel
theorem dX7_stick_74 : decode cX7_stick 74 = .ok (.invokestatic 191, 3) := by decide +kernel
theorem dX7_stick_77 : decode cX7_stick 77 = .ok (.aload_n 0, 1) := by decide +kernel
theorem dX7_stick_78 : decode cX7_stick 78 = .ok (.getfield 46, 3) := by decide +kernel
theorem dX7_stick_81 : decode cX7_stick 81 = .ok (.iload 7, 2) := by decide +kernel
theorem dX7_stick_83 : decode cX7_stick 83 = .ok (.laload, 1) := by decide +kernel
theorem dX7_stick_84 : decode cX7_stick 84 = .ok (.invokestatic 191, 3) := by decide +kernel
theorem dX7_stick_87 : decode cX7_stick 87 = .ok (.dsub, 1) := by decide +kernel
theorem dX7_stick_88 : decode cX7_stick 88 = .ok (.invokestatic 194, 3) := by decide +kernel
theorem dX7_stick_91 : decode cX7_stick 91 = .ok (.invokestatic 74, 3) := by decide +kernel
theorem dX7_stick_94 : decode cX7_stick 94 = .ok (.lstore 8, 2) := by decide +kernel
theorem dX7_stick_96 : decode cX7_stick 96 = .ok (.iload 4, 2) := by decide +kernel
theorem dX7_stick_98 : decode cX7_stick 98 = .ok (.iconst (-1), 1) := by decide +kernel
theorem dX7_stick_99 : decode cX7_stick 99 = .ok (.if_icmp .eq 14, 3) := by decide +kernel
theorem dX7_stick_102 : decode cX7_stick 102 = .ok (.lload 8, 2) := by decide +kernel
theorem dX7_stick_104 : decode cX7_stick 104 = .ok (.lload 5, 2) := by decide +kernel
theorem dX7_stick_106 : decode cX7_stick 106 = .ok (.lcmp, 1) := by decide +kernel
theorem dX7_stick_107 : decode cX7_stick 107 = .ok (.ifCond .lt 6, 3) := by decide +kernel
theorem dX7_stick_110 : decode cX7_stick 110 = .ok (.goto 11, 3) := by decide +kernel
theorem dX7_stick_113 : decode cX7_stick 113 = .ok (.iload 7, 2) := by decide +kernel
theorem dX7_stick_115 : decode cX7_stick 115 = .ok (.istore 4, 2) := by decide +kernel
theorem dX7_stick_117 : decode cX7_stick 117 = .ok (.lload 8, 2) := by decide +kernel
theorem dX7_stick_119 : decode cX7_stick 119 = .ok (.lstore 5, 2) := by decide +kernel
theorem dX7_stick_121 : decode cX7_stick 121 = .ok (.iinc 7 1, 3) := by decide +kernel
theorem dX7_stick_124 : decode cX7_stick 124 = .ok (.goto (-75), 3) := by decide +kernel
theorem dX7_stick_127 : decode cX7_stick 127 = .ok (.iload 4, 2) := by decide +kernel
theorem dX7_stick_129 : decode cX7_stick 129 = .ok (.iconst (-1), 1) := by decide +kernel
theorem dX7_stick_130 : decode cX7_stick 130 = .ok (.if_icmp .eq 13, 3) := by decide +kernel
theorem dX7_stick_133 : decode cX7_stick 133 = .ok (.lload 5, 2) := by decide +kernel
theorem dX7_stick_135 : decode cX7_stick 135 = .ok (.lload_n 2, 1) := by decide +kernel
theorem dX7_stick_136 : decode cX7_stick 136 = .ok (.invokestatic 74, 3) := by decide +kernel
theorem dX7_stick_139 : decode cX7_stick 139 = .ok (.lcmp, 1) := by decide +kernel
theorem dX7_stick_140 : decode cX7_stick 140 = .ok (.ifCond .le 10, 3) := by decide +kernel
theorem dX7_stick_143 : decode cX7_stick 143 = .ok (.aload_n 0, 1) := by decide +kernel
theorem dX7_stick_144 : decode cX7_stick 144 = .ok (.bipush 6, 2) := by decide +kernel
theorem dX7_stick_146 : decode cX7_stick 146 = .ok (.invokevirtual 156, 3) := by decide +kernel
theorem dX7_stick_149 : decode cX7_stick 149 = .ok (.ireturn, 1) := by decide +kernel
theorem dX7_stick_150 : decode cX7_stick 150 = .ok (.aload_n 0, 1) := by decide +kernel
theorem dX7_stick_151 : decode cX7_stick 151 = .ok (.iload_n 1, 1) := by decide +kernel
theorem dX7_stick_152 : decode cX7_stick 152 = .ok (.aload_n 0, 1) := by decide +kernel
theorem dX7_stick_153 : decode cX7_stick 153 = .ok (.getfield 46, 3) := by decide +kernel
theorem dX7_stick_156 : decode cX7_stick 156 = .ok (.iload 4, 2) := by decide +kernel
theorem dX7_stick_158 : decode cX7_stick 158 = .ok (.laload, 1) := by decide +kernel
theorem dX7_stick_159 : decode cX7_stick 159 = .ok (.aload_n 0, 1) := by decide +kernel
theorem dX7_stick_160 : decode cX7_stick 160 = .ok (.getfield 13, 3) := by decide +kernel
theorem dX7_stick_163 : decode cX7_stick 163 = .ok (.iload_n 1, 1) := by decide +kernel
theorem dX7_stick_164 : decode cX7_stick 164 = .ok (.iaload, 1) := by decide +kernel
theorem dX7_stick_165 : decode cX7_stick 165 = .ok (.invokevirtual 179, 3) := by decide +kernel
theorem dX7_stick_168 : decode cX7_stick 168 = .ok (.ireturn, 1) := by decide +kernel
theorem dX7_undo_0 : decode cX7_undo 0 = .ok (.aload_n 0, 1) := by decide +kernel
theorem dX7_undo_1 : decode cX7_undo 1 = .ok (.getfield 139, 3) := by decide +kernel
theorem dX7_undo_4 : decode cX7_undo 4 = .ok (.ifCond .ne 5, 3) := by decide +kernel
theorem dX7_undo_7 : decode cX7_undo 7 = .ok (.iconst (-1), 1) := by decide +kernel
theorem dX7_undo_8 : decode cX7_undo 8 = .ok (.ireturn, 1) := by decide +kernel
theorem dX7_undo_9 : decode cX7_undo 9 = .ok (.aload_n 0, 1) := by decide +kernel
theorem dX7_undo_10 : decode cX7_undo 10 = .ok (.dup, 1) := by decide +kernel
theorem dX7_undo_11 : decode cX7_undo 11 = .ok (.getfield 139, 3) := by decide +kernel
theorem dX7_undo_14 : decode cX7_undo 14 = .ok (.iconst 1, 1) := by decide +kernel
theorem dX7_undo_15 : decode cX7_undo 15 = .ok (.isub, 1) := by decide +kernel
theorem dX7_undo_16 : decode cX7_undo 16 = .ok (.putfield 139, 3) := by decide +kernel
theorem dX7_undo_19 : decode cX7_undo 19 = .ok (.aload_n 0, 1) := by decide +kernel
theorem dX7_undo_20 : decode cX7_undo 20 = .ok (.getfield 53, 3) := by decide +kernel
theorem dX7_undo_23 : decode cX7_undo 23 = .ok (.aload_n 0, 1) := by decide +kernel
theorem dX7_undo_24 : decode cX7_undo 24 = .ok (.getfield 139, 3) := by decide +kernel
theorem dX7_undo_27 : decode cX7_undo 27 = .ok (.iaload, 1) := by decide +kernel
theorem dX7_undo_28 : decode cX7_undo 28 = .ok (.istore_n 1, 1) := by decide +kernel
theorem dX7_undo_29 : decode cX7_undo 29 = .ok (.aload_n 0, 1) := by decide +kernel
theorem dX7_undo_30 : decode cX7_undo 30 = .ok (.getfield 7, 3) := by decide +kernel
theorem dX7_undo_33 : decode cX7_undo 33 = .ok (.iload_n 1, 1) := by decide +kernel
theorem dX7_undo_34 : decode cX7_undo 34 = .ok (.aload_n 0, 1) := by decide +kernel
theorem dX7_undo_35 : decode cX7_undo 35 = .ok (.getfield 56, 3) := by decide +kernel
theorem dX7_undo_38 : decode cX7_undo 38 = .ok (.aload_n 0, 1) := by decide +kernel
theorem dX7_undo_39 : decode cX7_undo 39 = .ok (.getfield 139, 3) := by decide +kernel
theorem dX7_undo_42 : decode cX7_undo 42 = .ok (.laload, 1) := by decide +kernel
theorem dX7_undo_43 : decode cX7_undo 43 = .ok (.lastore, 1) := by decide +kernel
theorem dX7_undo_44 : decode cX7_undo 44 = .ok (.aload_n 0, 1) := by decide +kernel
theorem dX7_undo_45 : decode cX7_undo 45 = .ok (.getfield 13, 3) := by decide +kernel
theorem dX7_undo_48 : decode cX7_undo 48 = .ok (.iload_n 1, 1) := by decide +kernel
theorem dX7_undo_49 : decode cX7_undo 49 = .ok (.aload_n 0, 1) := by decide +kernel
theorem dX7_undo_50 : decode cX7_undo 50 = .ok (.getfield 59, 3) := by decide +kernel
theorem dX7_undo_53 : decode cX7_undo 53 = .ok (.aload_n 0, 1) := by decide +kernel
theorem dX7_undo_54 : decode cX7_undo 54 = .ok (.getfield 139, 3) := by decide +kernel
theorem dX7_undo_57 : decode cX7_undo 57 = .ok (.iaload, 1) := by decide +kernel
theorem dX7_undo_58 : decode cX7_undo 58 = .ok (.iastore, 1) := by decide +kernel
theorem dX7_undo_59 : decode cX7_undo 59 = .ok (.iload_n 1, 1) := by decide +kernel
theorem dX7_undo_60 : decode cX7_undo 60 = .ok (.ireturn, 1) := by decide +kernel
set_option maxRecDepth 20000 in
theorem ggX7_x_X7_isPoint : GoodIn wsX7_x wsX7_isPoint := goodIn_r _ [5] (by decide +kernel) (by decide +kernel)
set_option maxRecDepth 20000 in
theorem gX7_x_X7_isPoint : GoodIn wsX7_x (va_wsS RX7 170 yX7_isPoint wsX7_isPoint) := goodIn_app (goodIn_of _ (by decide +kernel)) ggX7_x_X7_isPoint
theorem dX7_x_0 : decode cX7_x 0 = .ok (.iload_n 1, 1) := by decide +kernel
theorem dX7_x_1 : decode cX7_x 1 = .ok (.invokestatic 170, 3) := by decide +kernel
theorem dX7_x_4 : decode cX7_x 4 = .ok (.ifCond .eq 12, 3) := by decide +kernel
theorem dX7_x_7 : decode cX7_x 7 = .ok (.aload_n 0, 1) := by decide +kernel
theorem dX7_x_8 : decode cX7_x 8 = .ok (.getfield 7, 3) := by decide +kernel
theorem dX7_x_11 : decode cX7_x 11 = .ok (.iload_n 1, 1) := by decide +kernel
theorem dX7_x_12 : decode cX7_x 12 = .ok (.laload, 1) := by decide +kernel
theorem dX7_x_13 : decode cX7_x 13 = .ok (.goto 4, 3) := by decide +kernel
theorem dX7_x_16 : decode cX7_x 16 = .ok (.lconst 0, 1) := by decide +kernel
theorem dX7_x_17 : decode cX7_x 17 = .ok (.lreturn, 1) := by decide +kernel
set_option maxRecDepth 20000 in
theorem ggX7_y_X7_isPoint : GoodIn wsX7_y wsX7_isPoint := goodIn_r _ [5] (by decide +kernel) (by decide +kernel)
set_option maxRecDepth 20000 in
theorem gX7_y_X7_isPoint : GoodIn wsX7_y (va_wsS RX7 170 yX7_isPoint wsX7_isPoint) := goodIn_app (goodIn_of _ (by decide +kernel)) ggX7_y_X7_isPoint
theorem dX7_y_0 : decode cX7_y 0 = .ok (.iload_n 1, 1) := by decide +kernel
theorem dX7_y_1 : decode cX7_y 1 = .ok (.invokestatic 170, 3) := by decide +kernel
theorem dX7_y_4 : decode cX7_y 4 = .ok (.ifCond .eq 12, 3) := by decide +kernel
theorem dX7_y_7 : decode cX7_y 7 = .ok (.aload_n 0, 1) := by decide +kernel
theorem dX7_y_8 : decode cX7_y 8 = .ok (.getfield 13, 3) := by decide +kernel
theorem dX7_y_11 : decode cX7_y 11 = .ok (.iload_n 1, 1) := by decide +kernel
theorem dX7_y_12 : decode cX7_y 12 = .ok (.iaload, 1) := by decide +kernel
theorem dX7_y_13 : decode cX7_y 13 = .ok (.goto 4, 3) := by decide +kernel
theorem dX7_y_16 : decode cX7_y 16 = .ok (.iconst 0, 1) := by decide +kernel
theorem dX7_y_17 : decode cX7_y 17 = .ok (.ireturn, 1) := by decide +kernel
set_option maxRecDepth 20000 in
theorem ggX7_side_X7_isPoint : GoodIn wsX7_side wsX7_isPoint := goodIn_r _ [7] (by decide +kernel) (by decide +kernel)
set_option maxRecDepth 20000 in
theorem gX7_side_X7_isPoint : GoodIn wsX7_side (va_wsS RX7 170 yX7_isPoint wsX7_isPoint) := goodIn_app (goodIn_of _ (by decide +kernel)) ggX7_side_X7_isPoint
set_option maxRecDepth 20000 in
theorem ggX7_side_X7_size : GoodIn wsX7_side wsX7_size := goodIn_r _ [10, 11] (by decide +kernel) (by decide +kernel)
set_option maxRecDepth 20000 in
theorem gX7_side_X7_size : GoodIn wsX7_side (va_wsS RX7 74 yX7_size wsX7_size) := goodIn_app (goodIn_of _ (by decide +kernel)) ggX7_side_X7_size
theorem dX7_side_0 : decode cX7_side 0 = .ok (.iload_n 1, 1) := by decide +kernel
theorem dX7_side_1 : decode cX7_side 1 = .ok (.invokestatic 170, 3) := by decide +kernel
theorem dX7_side_4 : decode cX7_side 4 = .ok (.ifCond .ne 5, 3) := by decide +kernel
theorem dX7_side_7 : decode cX7_side 7 = .ok (.lconst 0, 1) := by decide +kernel
theorem dX7_side_8 : decode cX7_side 8 = .ok (.lreturn, 1) := by decide +kernel
theorem dX7_side_9 : decode cX7_side 9 = .ok (.aload_n 0, 1) := by decide +kernel
theorem dX7_side_10 : decode cX7_side 10 = .ok (.getfield 7, 3) := by decide +kernel
theorem dX7_side_13 : decode cX7_side 13 = .ok (.iload_n 1, 1) := by decide +kernel
theorem dX7_side_14 : decode cX7_side 14 = .ok (.laload, 1) := by decide +kernel
theorem dX7_side_15 : decode cX7_side 15 = .ok (.invokestatic 74, 3) := by decide +kernel
theorem dX7_side_18 : decode cX7_side 18 = .ok (.lconst 0, 1) := by decide +kernel
theorem dX7_side_19 : decode cX7_side 19 = .ok (.lcmp, 1) := by decide +kernel
theorem dX7_side_20 : decode cX7_side 20 = .ok (.ifCond .ne 12, 3) := by decide +kernel
theorem dX7_side_23 : decode cX7_side 23 = .ok (.aload_n 0, 1) := by decide +kernel
theorem dX7_side_24 : decode cX7_side 24 = .ok (.getfield 7, 3) := by decide +kernel
theorem dX7_side_27 : decode cX7_side 27 = .ok (.iload_n 1, 1) := by decide +kernel
theorem dX7_side_28 : decode cX7_side 28 = .ok (.laload, 1) := by decide +kernel
theorem dX7_side_29 : decode cX7_side 29 = .ok (.goto 17, 3) := by decide +kernel
theorem dX7_side_32 : decode cX7_side 32 = .ok (.ldc2_w 28, 3) := by decide +kernel
theorem dX7_side_35 : decode cX7_side 35 = .ok (.aload_n 0, 1) := by decide +kernel
theorem dX7_side_36 : decode cX7_side 36 = .ok (.getfield 7, 3) := by decide +kernel
theorem dX7_side_39 : decode cX7_side 39 = .ok (.iload_n 1, 1) := by decide +kernel
theorem dX7_side_40 : decode cX7_side 40 = .ok (.laload, 1) := by decide +kernel
theorem dX7_side_41 : decode cX7_side 41 = .ok (.ldc2_w 83, 3) := by decide +kernel
theorem dX7_side_44 : decode cX7_side 44 = .ok (.land, 1) := by decide +kernel
theorem dX7_side_45 : decode cX7_side 45 = .ok (.lor, 1) := by decide +kernel
theorem dX7_side_46 : decode cX7_side 46 = .ok (.lreturn, 1) := by decide +kernel
set_option maxRecDepth 20000 in
theorem ggX7_lift_X7_isPoint : GoodIn wsX7_lift wsX7_isPoint := goodIn_r _ [7] (by decide +kernel) (by decide +kernel)
set_option maxRecDepth 20000 in
theorem gX7_lift_X7_isPoint : GoodIn wsX7_lift (va_wsS RX7 170 yX7_isPoint wsX7_isPoint) := goodIn_app (goodIn_of _ (by decide +kernel)) ggX7_lift_X7_isPoint
set_option maxRecDepth 20000 in
theorem ggX7_lift_X7_size4 : GoodIn wsX7_lift wsX7_size4 := goodIn_r _ [10, 11] (by decide +kernel) (by decide +kernel)
set_option maxRecDepth 20000 in
theorem gX7_lift_X7_size4 : GoodIn wsX7_lift (va_wsS RX7 109 yX7_size4 wsX7_size4) := goodIn_app (goodIn_of _ (by decide +kernel)) ggX7_lift_X7_size4
theorem dX7_lift_0 : decode cX7_lift 0 = .ok (.iload_n 1, 1) := by decide +kernel
theorem dX7_lift_1 : decode cX7_lift 1 = .ok (.invokestatic 170, 3) := by decide +kernel
theorem dX7_lift_4 : decode cX7_lift 4 = .ok (.ifCond .ne 5, 3) := by decide +kernel
theorem dX7_lift_7 : decode cX7_lift 7 = .ok (.iconst 0, 1) := by decide +kernel
theorem dX7_lift_8 : decode cX7_lift 8 = .ok (.ireturn, 1) := by decide +kernel
theorem dX7_lift_9 : decode cX7_lift 9 = .ok (.aload_n 0, 1) := by decide +kernel
theorem dX7_lift_10 : decode cX7_lift 10 = .ok (.getfield 13, 3) := by decide +kernel
theorem dX7_lift_13 : decode cX7_lift 13 = .ok (.iload_n 1, 1) := by decide +kernel
theorem dX7_lift_14 : decode cX7_lift 14 = .ok (.iaload, 1) := by decide +kernel
theorem dX7_lift_15 : decode cX7_lift 15 = .ok (.invokestatic 109, 3) := by decide +kernel
theorem dX7_lift_18 : decode cX7_lift 18 = .ok (.ifCond .ne 12, 3) := by decide +kernel
theorem dX7_lift_21 : decode cX7_lift 21 = .ok (.aload_n 0, 1) := by decide +kernel
theorem dX7_lift_22 : decode cX7_lift 22 = .ok (.getfield 13, 3) := by decide +kernel
theorem dX7_lift_25 : decode cX7_lift 25 = .ok (.iload_n 1, 1) := by decide +kernel
theorem dX7_lift_26 : decode cX7_lift 26 = .ok (.iaload, 1) := by decide +kernel
theorem dX7_lift_27 : decode cX7_lift 27 = .ok (.goto 15, 3) := by decide +kernel
theorem dX7_lift_30 : decode cX7_lift 30 = .ok (.ldc 42, 2) := by decide +kernel
theorem dX7_lift_32 : decode cX7_lift 32 = .ok (.aload_n 0, 1) := by decide +kernel
theorem dX7_lift_33 : decode cX7_lift 33 = .ok (.getfield 13, 3) := by decide +kernel
theorem dX7_lift_36 : decode cX7_lift 36 = .ok (.iload_n 1, 1) := by decide +kernel
theorem dX7_lift_37 : decode cX7_lift 37 = .ok (.iaload, 1) := by decide +kernel
theorem dX7_lift_38 : decode cX7_lift 38 = .ok (.ldc 98, 2) := by decide +kernel
theorem dX7_lift_40 : decode cX7_lift 40 = .ok (.iand, 1) := by decide +kernel
theorem dX7_lift_41 : decode cX7_lift 41 = .ok (.ior, 1) := by decide +kernel
theorem dX7_lift_42 : decode cX7_lift 42 = .ok (.ireturn, 1) := by decide +kernel
set_option maxRecDepth 20000 in
theorem ggX7_far_X7_isPoint : GoodIn wsX7_far wsX7_isPoint := goodIn_r _ [6] (by decide +kernel) (by decide +kernel)
set_option maxRecDepth 20000 in
theorem gX7_far_X7_isPoint : GoodIn wsX7_far (va_wsS RX7 170 yX7_isPoint wsX7_isPoint) := goodIn_app (goodIn_of _ (by decide +kernel)) ggX7_far_X7_isPoint
set_option maxRecDepth 20000 in
theorem ggX7_far_X7_of : GoodIn wsX7_far wsX7_of := goodIn_r _ [9, 10, 11, 12, 13] (by decide +kernel) (by decide +kernel)
set_option maxRecDepth 20000 in
theorem gX7_far_X7_of : GoodIn wsX7_far (va_wsS RX7 191 yX7_of wsX7_of) := goodIn_app (goodIn_of _ (by decide +kernel)) ggX7_far_X7_of
set_option maxRecDepth 20000 in
theorem ggX7_far_X7_bits : GoodIn wsX7_far wsX7_bits := goodIn_r _ [16, 17, 18, 19, 20, 21, 22, 23, 13, 24, 25, 26, 27] (by decide +kernel) (by decide +kernel)
set_option maxRecDepth 20000 in
theorem gX7_far_X7_bits : GoodIn wsX7_far (va_wsS RX7 194 yX7_bits wsX7_bits) := goodIn_app (goodIn_of _ (by decide +kernel)) ggX7_far_X7_bits
set_option maxRecDepth 20000 in
theorem ggX7_far_X7_size : GoodIn wsX7_far wsX7_size := goodIn_r _ [30, 31] (by decide +kernel) (by decide +kernel)
set_option maxRecDepth 20000 in
theorem gX7_far_X7_size : GoodIn wsX7_far (va_wsS RX7 74 yX7_size wsX7_size) := goodIn_app (goodIn_of _ (by decide +kernel)) ggX7_far_X7_size
set_option maxRecDepth 20000 in
theorem ggX7_far_X7_of4 : GoodIn wsX7_far wsX7_of4 := goodIn_r _ [34, 35, 36, 37, 38] (by decide +kernel) (by decide +kernel)
set_option maxRecDepth 20000 in
theorem gX7_far_X7_of4 : GoodIn wsX7_far (va_wsS RX7 197 yX7_of4 wsX7_of4) := goodIn_app (goodIn_of _ (by decide +kernel)) ggX7_far_X7_of4
set_option maxRecDepth 20000 in
theorem ggX7_far_X7_bits4 : GoodIn wsX7_far wsX7_bits4 := goodIn_r _ [41, 42, 43, 44, 45, 46, 47, 48, 38, 49, 50, 51, 52] (by decide +kernel) (by decide +kernel)
set_option maxRecDepth 20000 in
theorem gX7_far_X7_bits4 : GoodIn wsX7_far (va_wsS RX7 200 yX7_bits4 wsX7_bits4) := goodIn_app (goodIn_of _ (by decide +kernel)) ggX7_far_X7_bits4
set_option maxRecDepth 20000 in
theorem ggX7_far_X7_size4 : GoodIn wsX7_far wsX7_size4 := goodIn_r _ [55, 56] (by decide +kernel) (by decide +kernel)
set_option maxRecDepth 20000 in
theorem gX7_far_X7_size4 : GoodIn wsX7_far (va_wsS RX7 109 yX7_size4 wsX7_size4) := goodIn_app (goodIn_of _ (by decide +kernel)) ggX7_far_X7_size4
theorem dX7_far_0 : decode cX7_far 0 = .ok (.iload_n 1, 1) := by decide +kernel
theorem dX7_far_1 : decode cX7_far 1 = .ok (.invokestatic 170, 3) := by decide +kernel
theorem dX7_far_4 : decode cX7_far 4 = .ok (.ifCond .eq 10, 3) := by decide +kernel
theorem dX7_far_7 : decode cX7_far 7 = .ok (.iload_n 2, 1) := by decide +kernel
theorem dX7_far_8 : decode cX7_far 8 = .ok (.invokestatic 170, 3) := by decide +kernel
theorem dX7_far_11 : decode cX7_far 11 = .ok (.ifCond .ne 5, 3) := by decide +kernel
theorem dX7_far_14 : decode cX7_far 14 = .ok (.lconst 0, 1) := by decide +kernel
theorem dX7_far_15 : decode cX7_far 15 = .ok (.lreturn, 1) := by decide +kernel
theorem dX7_far_16 : decode cX7_far 16 = .ok (.aload_n 0, 1) := by decide +kernel
theorem dX7_far_17 : decode cX7_far 17 = .ok (.getfield 7, 3) := by decide +kernel
theorem dX7_far_20 : decode cX7_far 20 = .ok (.iload_n 1, 1) := by decide +kernel
theorem dX7_far_21 : decode cX7_far 21 = .ok (.laload, 1) := by decide +kernel
theorem dX7_far_22 : decode cX7_far 22 = .ok (.invokestatic 191, 3) := by decide +kernel
theorem dX7_far_25 : decode cX7_far 25 = .ok (.aload_n 0, 1) := by decide +kernel
theorem dX7_far_26 : decode cX7_far 26 = .ok (.getfield 7, 3) := by decide +kernel
theorem dX7_far_29 : decode cX7_far 29 = .ok (.iload_n 2, 1) := by decide +kernel
theorem dX7_far_30 : decode cX7_far 30 = .ok (.laload, 1) := by decide +kernel
theorem dX7_far_31 : decode cX7_far 31 = .ok (.invokestatic 191, 3) := by decide +kernel
theorem dX7_far_34 : decode cX7_far 34 = .ok (.dsub, 1) := by decide +kernel
theorem dX7_far_35 : decode cX7_far 35 = .ok (.invokestatic 194, 3) := by decide +kernel
theorem dX7_far_38 : decode cX7_far 38 = .ok (.invokestatic 74, 3) := by decide +kernel
theorem dX7_far_41 : decode cX7_far 41 = .ok (.lstore_n 3, 1) := by decide +kernel
theorem dX7_far_42 : decode cX7_far 42 = .ok (.aload_n 0, 1) := by decide +kernel
theorem dX7_far_43 : decode cX7_far 43 = .ok (.getfield 13, 3) := by decide +kernel
theorem dX7_far_46 : decode cX7_far 46 = .ok (.iload_n 1, 1) := by decide +kernel
theorem dX7_far_47 : decode cX7_far 47 = .ok (.iaload, 1) := by decide +kernel
theorem dX7_far_48 : decode cX7_far 48 = .ok (.invokestatic 197, 3) := by decide +kernel
theorem dX7_far_51 : decode cX7_far 51 = .ok (.aload_n 0, 1) := by decide +kernel
theorem dX7_far_52 : decode cX7_far 52 = .ok (.getfield 13, 3) := by decide +kernel
theorem dX7_far_55 : decode cX7_far 55 = .ok (.iload_n 2, 1) := by decide +kernel
theorem dX7_far_56 : decode cX7_far 56 = .ok (.iaload, 1) := by decide +kernel
theorem dX7_far_57 : decode cX7_far 57 = .ok (.invokestatic 197, 3) := by decide +kernel
theorem dX7_far_60 : decode cX7_far 60 = .ok (.fsub, 1) := by decide +kernel
theorem dX7_far_61 : decode cX7_far 61 = .ok (.invokestatic 200, 3) := by decide +kernel
theorem dX7_far_64 : decode cX7_far 64 = .ok (.invokestatic 109, 3) := by decide +kernel
theorem dX7_far_67 : decode cX7_far 67 = .ok (.istore 5, 2) := by decide +kernel
theorem dX7_far_69 : decode cX7_far 69 = .ok (.iload 5, 2) := by decide +kernel
theorem dX7_far_71 : decode cX7_far 71 = .ok (.invokestatic 197, 3) := by decide +kernel
theorem dX7_far_74 : decode cX7_far 74 = .ok (.f2d, 1) := by decide +kernel
theorem dX7_far_75 : decode cX7_far 75 = .ok (.invokestatic 194, 3) := by decide +kernel
theorem dX7_far_78 : decode cX7_far 78 = .ok (.lstore 6, 2) := by decide +kernel
theorem dX7_far_80 : decode cX7_far 80 = .ok (.lload_n 3, 1) := by decide +kernel
theorem dX7_far_81 : decode cX7_far 81 = .ok (.lload 6, 2) := by decide +kernel
theorem dX7_far_83 : decode cX7_far 83 = .ok (.lcmp, 1) := by decide +kernel
theorem dX7_far_84 : decode cX7_far 84 = .ok (.ifCond .le 7, 3) := by decide +kernel
theorem dX7_far_87 : decode cX7_far 87 = .ok (.lload_n 3, 1) := by decide +kernel
theorem dX7_far_88 : decode cX7_far 88 = .ok (.goto 5, 3) := by decide +kernel
theorem dX7_far_91 : decode cX7_far 91 = .ok (.lload 6, 2) := by decide +kernel
theorem dX7_far_93 : decode cX7_far 93 = .ok (.lreturn, 1) := by decide +kernel
set_option maxRecDepth 20000 in
theorem ggX7_cell_X7_isPoint : GoodIn wsX7_cell wsX7_isPoint := goodIn_r _ [6] (by decide +kernel) (by decide +kernel)
set_option maxRecDepth 20000 in
theorem gX7_cell_X7_isPoint : GoodIn wsX7_cell (va_wsS RX7 170 yX7_isPoint wsX7_isPoint) := goodIn_app (goodIn_of _ (by decide +kernel)) ggX7_cell_X7_isPoint
set_option maxRecDepth 20000 in
theorem ggX7_cell_X7_of : GoodIn wsX7_cell wsX7_of := goodIn_r _ [9, 10, 11, 12, 13] (by decide +kernel) (by decide +kernel)
set_option maxRecDepth 20000 in
theorem gX7_cell_X7_of : GoodIn wsX7_cell (va_wsS RX7 191 yX7_of wsX7_of) := goodIn_app (goodIn_of _ (by decide +kernel)) ggX7_cell_X7_of
set_option maxRecDepth 20000 in
theorem ggX7_cell_X7_bits : GoodIn wsX7_cell wsX7_bits := goodIn_r _ [16, 17, 18, 19, 20, 21, 22, 23, 13, 24, 25, 26, 27] (by decide +kernel) (by decide +kernel)
set_option maxRecDepth 20000 in
theorem gX7_cell_X7_bits : GoodIn wsX7_cell (va_wsS RX7 194 yX7_bits wsX7_bits) := goodIn_app (goodIn_of _ (by decide +kernel)) ggX7_cell_X7_bits
set_option maxRecDepth 20000 in
theorem ggX7_cell_X7_whole : GoodIn wsX7_cell wsX7_whole := goodIn_r _ [30, 31, 32, 33, 34, 35, 36, 5, 37, 38, 39, 40, 41] (by decide +kernel) (by decide +kernel)
set_option maxRecDepth 20000 in
theorem gX7_cell_X7_whole : GoodIn wsX7_cell (va_wsS RX7 203 yX7_whole wsX7_whole) := goodIn_app (goodIn_of _ (by decide +kernel)) ggX7_cell_X7_whole
set_option maxRecDepth 20000 in
theorem ggX7_cell_X7_whole32 : GoodIn wsX7_cell wsX7_whole32 := goodIn_r _ [44, 45, 46, 47, 48] (by decide +kernel) (by decide +kernel)
set_option maxRecDepth 20000 in
theorem gX7_cell_X7_whole32 : GoodIn wsX7_cell (va_wsS RX7 210 yX7_whole32 wsX7_whole32) := goodIn_app (goodIn_of _ (by decide +kernel)) ggX7_cell_X7_whole32
theorem dX7_cell_0 : decode cX7_cell 0 = .ok (.iload_n 1, 1) := by decide +kernel
theorem dX7_cell_1 : decode cX7_cell 1 = .ok (.invokestatic 170, 3) := by decide +kernel
theorem dX7_cell_4 : decode cX7_cell 4 = .ok (.ifCond .ne 5, 3) := by decide +kernel
theorem dX7_cell_7 : decode cX7_cell 7 = .ok (.iconst 0, 1) := by decide +kernel
theorem dX7_cell_8 : decode cX7_cell 8 = .ok (.ireturn, 1) := by decide +kernel
theorem dX7_cell_9 : decode cX7_cell 9 = .ok (.aload_n 0, 1) := by decide +kernel
theorem dX7_cell_10 : decode cX7_cell 10 = .ok (.getfield 7, 3) := by decide +kernel
theorem dX7_cell_13 : decode cX7_cell 13 = .ok (.iload_n 1, 1) := by decide +kernel
theorem dX7_cell_14 : decode cX7_cell 14 = .ok (.laload, 1) := by decide +kernel
theorem dX7_cell_15 : decode cX7_cell 15 = .ok (.invokestatic 191, 3) := by decide +kernel
theorem dX7_cell_18 : decode cX7_cell 18 = .ok (.aload_n 0, 1) := by decide +kernel
theorem dX7_cell_19 : decode cX7_cell 19 = .ok (.getfield 30, 3) := by decide +kernel
theorem dX7_cell_22 : decode cX7_cell 22 = .ok (.invokestatic 191, 3) := by decide +kernel
theorem dX7_cell_25 : decode cX7_cell 25 = .ok (.ddiv, 1) := by decide +kernel
theorem dX7_cell_26 : decode cX7_cell 26 = .ok (.invokestatic 194, 3) := by decide +kernel
theorem dX7_cell_29 : decode cX7_cell 29 = .ok (.iconst 0, 1) := by decide +kernel
theorem dX7_cell_30 : decode cX7_cell 30 = .ok (.invokestatic 203, 3) := by decide +kernel
theorem dX7_cell_33 : decode cX7_cell 33 = .ok (.invokestatic 191, 3) := by decide +kernel
theorem dX7_cell_36 : decode cX7_cell 36 = .ok (.invokestatic 210, 3) := by decide +kernel
theorem dX7_cell_39 : decode cX7_cell 39 = .ok (.ireturn, 1) := by decide +kernel
set_option maxRecDepth 20000 in
theorem ggX7_mark_X7_isPoint : GoodIn wsX7_mark wsX7_isPoint := goodIn_r _ [6] (by decide +kernel) (by decide +kernel)
set_option maxRecDepth 20000 in
theorem gX7_mark_X7_isPoint : GoodIn wsX7_mark (va_wsS RX7 170 yX7_isPoint wsX7_isPoint) := goodIn_app (goodIn_of _ (by decide +kernel)) ggX7_mark_X7_isPoint
set_option maxRecDepth 20000 in
theorem ggX7_mark_X7_of4 : GoodIn wsX7_mark wsX7_of4 := goodIn_r _ [9, 10, 11, 12, 13] (by decide +kernel) (by decide +kernel)
set_option maxRecDepth 20000 in
theorem gX7_mark_X7_of4 : GoodIn wsX7_mark (va_wsS RX7 197 yX7_of4 wsX7_of4) := goodIn_app (goodIn_of _ (by decide +kernel)) ggX7_mark_X7_of4
set_option maxRecDepth 20000 in
theorem ggX7_mark_X7_bits4 : GoodIn wsX7_mark wsX7_bits4 := goodIn_r _ [16, 17, 18, 19, 20, 21, 22, 23, 13, 24, 25, 26, 27] (by decide +kernel) (by decide +kernel)
set_option maxRecDepth 20000 in
theorem gX7_mark_X7_bits4 : GoodIn wsX7_mark (va_wsS RX7 200 yX7_bits4 wsX7_bits4) := goodIn_app (goodIn_of _ (by decide +kernel)) ggX7_mark_X7_bits4
set_option maxRecDepth 20000 in
theorem ggX7_mark_X7_whole4 : GoodIn wsX7_mark wsX7_whole4 := goodIn_r _ [30, 31, 32, 33, 34, 35, 5, 36, 37] (by decide +kernel) (by decide +kernel)
set_option maxRecDepth 20000 in
theorem gX7_mark_X7_whole4 : GoodIn wsX7_mark (va_wsS RX7 207 yX7_whole4 wsX7_whole4) := goodIn_app (goodIn_of _ (by decide +kernel)) ggX7_mark_X7_whole4
set_option maxRecDepth 20000 in
theorem ggX7_mark_X7_whole64 : GoodIn wsX7_mark wsX7_whole64 := goodIn_r _ [40, 41, 42, 43, 44] (by decide +kernel) (by decide +kernel)
set_option maxRecDepth 20000 in
theorem gX7_mark_X7_whole64 : GoodIn wsX7_mark (va_wsS RX7 214 yX7_whole64 wsX7_whole64) := goodIn_app (goodIn_of _ (by decide +kernel)) ggX7_mark_X7_whole64
theorem dX7_mark_0 : decode cX7_mark 0 = .ok (.iload_n 1, 1) := by decide +kernel
theorem dX7_mark_1 : decode cX7_mark 1 = .ok (.invokestatic 170, 3) := by decide +kernel
theorem dX7_mark_4 : decode cX7_mark 4 = .ok (.ifCond .ne 5, 3) := by decide +kernel
theorem dX7_mark_7 : decode cX7_mark 7 = .ok (.lconst 0, 1) := by decide +kernel
theorem dX7_mark_8 : decode cX7_mark 8 = .ok (.lreturn, 1) := by decide +kernel
theorem dX7_mark_9 : decode cX7_mark 9 = .ok (.aload_n 0, 1) := by decide +kernel
theorem dX7_mark_10 : decode cX7_mark 10 = .ok (.getfield 13, 3) := by decide +kernel
theorem dX7_mark_13 : decode cX7_mark 13 = .ok (.iload_n 1, 1) := by decide +kernel
theorem dX7_mark_14 : decode cX7_mark 14 = .ok (.iaload, 1) := by decide +kernel
theorem dX7_mark_15 : decode cX7_mark 15 = .ok (.invokestatic 197, 3) := by decide +kernel
theorem dX7_mark_18 : decode cX7_mark 18 = .ok (.aload_n 0, 1) := by decide +kernel
theorem dX7_mark_19 : decode cX7_mark 19 = .ok (.getfield 43, 3) := by decide +kernel
theorem dX7_mark_22 : decode cX7_mark 22 = .ok (.invokestatic 197, 3) := by decide +kernel
theorem dX7_mark_25 : decode cX7_mark 25 = .ok (.fdiv, 1) := by decide +kernel
theorem dX7_mark_26 : decode cX7_mark 26 = .ok (.invokestatic 200, 3) := by decide +kernel
theorem dX7_mark_29 : decode cX7_mark 29 = .ok (.iconst 2, 1) := by decide +kernel
theorem dX7_mark_30 : decode cX7_mark 30 = .ok (.invokestatic 207, 3) := by decide +kernel
theorem dX7_mark_33 : decode cX7_mark 33 = .ok (.invokestatic 197, 3) := by decide +kernel
theorem dX7_mark_36 : decode cX7_mark 36 = .ok (.invokestatic 214, 3) := by decide +kernel
theorem dX7_mark_39 : decode cX7_mark 39 = .ok (.lreturn, 1) := by decide +kernel
set_option maxRecDepth 20000 in
theorem ggX7_gap_X7_isPoint : GoodIn wsX7_gap wsX7_isPoint := goodIn_r _ [4] (by decide +kernel) (by decide +kernel)
set_option maxRecDepth 20000 in
theorem gX7_gap_X7_isPoint : GoodIn wsX7_gap (va_wsS RX7 170 yX7_isPoint wsX7_isPoint) := goodIn_app (goodIn_of _ (by decide +kernel)) ggX7_gap_X7_isPoint
set_option maxRecDepth 20000 in
theorem ggX7_gap_X7_cell : GoodIn wsX7_gap wsX7_cell := goodIn_r _ [8, 9, 10, 1, 2, 3, 4, 11, 12, 13, 14, 15, 16, 17, 18, 19, 20, 21, 22, 23, 24, 25, 26, 27, 28, 29, 30, 31, 32, 33, 34, 35, 36, 37, 38, 39, 40, 41, 42, 43, 44, 45, 46, 47, 48, 49, 50, 51, 52, 53, 54, 55, 56, 57, 58, 59, 60, 61, 62, 63, 64, 65, 66, 67, 68, 69] (by decide +kernel) (by decide +kernel)
set_option maxRecDepth 20000 in
theorem gX7_gap_X7_cell : GoodIn wsX7_gap (wsV RX7 218 RX7 yX7_cell wsX7_cell) := goodIn_app (goodIn_of _ (by decide +kernel)) ggX7_gap_X7_cell
theorem dX7_gap_0 : decode cX7_gap 0 = .ok (.iload_n 1, 1) := by decide +kernel
theorem dX7_gap_1 : decode cX7_gap 1 = .ok (.invokestatic 170, 3) := by decide +kernel
theorem dX7_gap_4 : decode cX7_gap 4 = .ok (.ifCond .eq 10, 3) := by decide +kernel
theorem dX7_gap_7 : decode cX7_gap 7 = .ok (.iload_n 2, 1) := by decide +kernel
theorem dX7_gap_8 : decode cX7_gap 8 = .ok (.invokestatic 170, 3) := by decide +kernel
theorem dX7_gap_11 : decode cX7_gap 11 = .ok (.ifCond .ne 5, 3) := by decide +kernel
theorem dX7_gap_14 : decode cX7_gap 14 = .ok (.iconst 0, 1) := by decide +kernel
theorem dX7_gap_15 : decode cX7_gap 15 = .ok (.ireturn, 1) := by decide +kernel
theorem dX7_gap_16 : decode cX7_gap 16 = .ok (.aload_n 0, 1) := by decide +kernel
theorem dX7_gap_17 : decode cX7_gap 17 = .ok (.iload_n 1, 1) := by decide +kernel
theorem dX7_gap_18 : decode cX7_gap 18 = .ok (.invokevirtual 218, 3) := by decide +kernel
theorem dX7_gap_21 : decode cX7_gap 21 = .ok (.aload_n 0, 1) := by decide +kernel
theorem dX7_gap_22 : decode cX7_gap 22 = .ok (.iload_n 2, 1) := by decide +kernel
theorem dX7_gap_23 : decode cX7_gap 23 = .ok (.invokevirtual 218, 3) := by decide +kernel
theorem dX7_gap_26 : decode cX7_gap 26 = .ok (.isub, 1) := by decide +kernel
theorem dX7_gap_27 : decode cX7_gap 27 = .ok (.istore_n 3, 1) := by decide +kernel
theorem dX7_gap_28 : decode cX7_gap 28 = .ok (.iload_n 3, 1) := by decide +kernel
theorem dX7_gap_29 : decode cX7_gap 29 = .ok (.ifCond .ge 8, 3) := by decide +kernel
theorem dX7_gap_32 : decode cX7_gap 32 = .ok (.iload_n 3, 1) := by decide +kernel
theorem dX7_gap_33 : decode cX7_gap 33 = .ok (.ineg, 1) := by decide +kernel
theorem dX7_gap_34 : decode cX7_gap 34 = .ok (.goto 4, 3) := by decide +kernel
theorem dX7_gap_37 : decode cX7_gap 37 = .ok (.iload_n 3, 1) := by decide +kernel
theorem dX7_gap_38 : decode cX7_gap 38 = .ok (.ireturn, 1) := by decide +kernel
set_option maxRecDepth 20000 in
theorem ggX7_rise_X7_isPoint : GoodIn wsX7_rise wsX7_isPoint := goodIn_r _ [4] (by decide +kernel) (by decide +kernel)
set_option maxRecDepth 20000 in
theorem gX7_rise_X7_isPoint : GoodIn wsX7_rise (va_wsS RX7 170 yX7_isPoint wsX7_isPoint) := goodIn_app (goodIn_of _ (by decide +kernel)) ggX7_rise_X7_isPoint
set_option maxRecDepth 20000 in
theorem ggX7_rise_X7_mark : GoodIn wsX7_rise wsX7_mark := goodIn_r _ [8, 9, 10, 1, 2, 3, 4, 11, 12, 13, 14, 15, 16, 17, 18, 19, 20, 21, 22, 23, 24, 25, 26, 27, 28, 29, 30, 31, 32, 33, 34, 35, 36, 37, 38, 39, 40, 41, 42, 43, 44, 45, 46, 47, 48, 49, 50, 51, 52, 53, 54, 55, 56, 57, 58, 59, 60, 61, 62, 63, 64, 65] (by decide +kernel) (by decide +kernel)
set_option maxRecDepth 20000 in
theorem gX7_rise_X7_mark : GoodIn wsX7_rise (wsV RX7 221 RX7 yX7_mark wsX7_mark) := goodIn_app (goodIn_of _ (by decide +kernel)) ggX7_rise_X7_mark
theorem dX7_rise_0 : decode cX7_rise 0 = .ok (.iload_n 1, 1) := by decide +kernel
theorem dX7_rise_1 : decode cX7_rise 1 = .ok (.invokestatic 170, 3) := by decide +kernel
theorem dX7_rise_4 : decode cX7_rise 4 = .ok (.ifCond .eq 10, 3) := by decide +kernel
theorem dX7_rise_7 : decode cX7_rise 7 = .ok (.iload_n 2, 1) := by decide +kernel
theorem dX7_rise_8 : decode cX7_rise 8 = .ok (.invokestatic 170, 3) := by decide +kernel
theorem dX7_rise_11 : decode cX7_rise 11 = .ok (.ifCond .ne 5, 3) := by decide +kernel
theorem dX7_rise_14 : decode cX7_rise 14 = .ok (.lconst 0, 1) := by decide +kernel
theorem dX7_rise_15 : decode cX7_rise 15 = .ok (.lreturn, 1) := by decide +kernel
theorem dX7_rise_16 : decode cX7_rise 16 = .ok (.aload_n 0, 1) := by decide +kernel
theorem dX7_rise_17 : decode cX7_rise 17 = .ok (.iload_n 1, 1) := by decide +kernel
theorem dX7_rise_18 : decode cX7_rise 18 = .ok (.invokevirtual 221, 3) := by decide +kernel
theorem dX7_rise_21 : decode cX7_rise 21 = .ok (.aload_n 0, 1) := by decide +kernel
theorem dX7_rise_22 : decode cX7_rise 22 = .ok (.iload_n 2, 1) := by decide +kernel
theorem dX7_rise_23 : decode cX7_rise 23 = .ok (.invokevirtual 221, 3) := by decide +kernel
theorem dX7_rise_26 : decode cX7_rise 26 = .ok (.lsub, 1) := by decide +kernel
theorem dX7_rise_27 : decode cX7_rise 27 = .ok (.lstore_n 3, 1) := by decide +kernel
theorem dX7_rise_28 : decode cX7_rise 28 = .ok (.lload_n 3, 1) := by decide +kernel
theorem dX7_rise_29 : decode cX7_rise 29 = .ok (.lconst 0, 1) := by decide +kernel
theorem dX7_rise_30 : decode cX7_rise 30 = .ok (.lcmp, 1) := by decide +kernel
theorem dX7_rise_31 : decode cX7_rise 31 = .ok (.ifCond .ge 8, 3) := by decide +kernel
theorem dX7_rise_34 : decode cX7_rise 34 = .ok (.lload_n 3, 1) := by decide +kernel
theorem dX7_rise_35 : decode cX7_rise 35 = .ok (.lneg, 1) := by decide +kernel
theorem dX7_rise_36 : decode cX7_rise 36 = .ok (.goto 4, 3) := by decide +kernel
theorem dX7_rise_39 : decode cX7_rise 39 = .ok (.lload_n 3, 1) := by decide +kernel
theorem dX7_rise_40 : decode cX7_rise 40 = .ok (.lreturn, 1) := by decide +kernel
set_option maxRecDepth 20000 in
theorem ggX7_edge_X7_greater : GoodIn wsX7_edge wsX7_greater := goodIn_r _ [5, 6, 7, 4, 8, 9, 10, 11, 12, 13] (by decide +kernel) (by decide +kernel)
set_option maxRecDepth 20000 in
theorem gX7_edge_X7_greater : GoodIn wsX7_edge (va_wsS RX7 129 yX7_greater wsX7_greater) := goodIn_app (goodIn_of _ (by decide +kernel)) ggX7_edge_X7_greater
set_option maxRecDepth 20000 in
theorem ggX7_edge_X7_lesser : GoodIn wsX7_edge wsX7_lesser := goodIn_r _ [16, 6, 7, 4, 8, 9, 10, 11, 12, 13] (by decide +kernel) (by decide +kernel)
set_option maxRecDepth 20000 in
theorem gX7_edge_X7_lesser : GoodIn wsX7_edge (va_wsS RX7 125 yX7_lesser wsX7_lesser) := goodIn_app (goodIn_of _ (by decide +kernel)) ggX7_edge_X7_lesser
theorem dX7_edge_0 : decode cX7_edge 0 = .ok (.iload_n 1, 1) := by decide +kernel
theorem dX7_edge_1 : decode cX7_edge 1 = .ok (.ifCond .lt 8, 3) := by decide +kernel
theorem dX7_edge_4 : decode cX7_edge 4 = .ok (.iload_n 1, 1) := by decide +kernel
theorem dX7_edge_5 : decode cX7_edge 5 = .ok (.iconst 1, 1) := by decide +kernel
theorem dX7_edge_6 : decode cX7_edge 6 = .ok (.if_icmp .le 5, 3) := by decide +kernel
theorem dX7_edge_9 : decode cX7_edge 9 = .ok (.lconst 0, 1) := by decide +kernel
theorem dX7_edge_10 : decode cX7_edge 10 = .ok (.lreturn, 1) := by decide +kernel
theorem dX7_edge_11 : decode cX7_edge 11 = .ok (.aload_n 0, 1) := by decide +kernel
theorem dX7_edge_12 : decode cX7_edge 12 = .ok (.getfield 7, 3) := by decide +kernel
theorem dX7_edge_15 : decode cX7_edge 15 = .ok (.iconst 0, 1) := by decide +kernel
theorem dX7_edge_16 : decode cX7_edge 16 = .ok (.laload, 1) := by decide +kernel
theorem dX7_edge_17 : decode cX7_edge 17 = .ok (.lstore_n 2, 1) := by decide +kernel
theorem dX7_edge_18 : decode cX7_edge 18 = .ok (.iconst 1, 1) := by decide +kernel
theorem dX7_edge_19 : decode cX7_edge 19 = .ok (.istore 4, 2) := by decide +kernel
theorem dX7_edge_21 : decode cX7_edge 21 = .ok (.iload 4, 2) := by decide +kernel
theorem dX7_edge_23 : decode cX7_edge 23 = .ok (.bipush 8, 2) := by decide +kernel
theorem dX7_edge_25 : decode cX7_edge 25 = .ok (.if_icmp .ge 39, 3) := by decide +kernel
theorem dX7_edge_28 : decode cX7_edge 28 = .ok (.iload_n 1, 1) := by decide +kernel
theorem dX7_edge_29 : decode cX7_edge 29 = .ok (.ifCond .ne 17, 3) := by decide +kernel
theorem dX7_edge_32 : decode cX7_edge 32 = .ok (.lload_n 2, 1) := by decide +kernel
theorem dX7_edge_33 : decode cX7_edge 33 = .ok (.aload_n 0, 1) := by decide +kernel
theorem dX7_edge_34 : decode cX7_edge 34 = .ok (.getfield 7, 3) := by decide +kernel
theorem dX7_edge_37 : decode cX7_edge 37 = .ok (.iload 4, 2) := by decide +kernel
theorem dX7_edge_39 : decode cX7_edge 39 = .ok (.laload, 1) := by decide +kernel
theorem dX7_edge_40 : decode cX7_edge 40 = .ok (.invokestatic 129, 3) := by decide +kernel
theorem dX7_edge_43 : decode cX7_edge 43 = .ok (.goto 14, 3) := by decide +kernel
theorem dX7_edge_46 : decode cX7_edge 46 = .ok (.lload_n 2, 1) := by decide +kernel
theorem dX7_edge_47 : decode cX7_edge 47 = .ok (.aload_n 0, 1) := by decide +kernel
theorem dX7_edge_48 : decode cX7_edge 48 = .ok (.getfield 7, 3) := by decide +kernel
theorem dX7_edge_51 : decode cX7_edge 51 = .ok (.iload 4, 2) := by decide +kernel
theorem dX7_edge_53 : decode cX7_edge 53 = .ok (.laload, 1) := by decide +kernel
theorem dX7_edge_54 : decode cX7_edge 54 = .ok (.invokestatic 125, 3) := by decide +kernel
theorem dX7_edge_57 : decode cX7_edge 57 = .ok (.lstore_n 2, 1) := by decide +kernel
theorem dX7_edge_58 : decode cX7_edge 58 = .ok (.iinc 4 1, 3) := by decide +kernel
theorem dX7_edge_61 : decode cX7_edge 61 = .ok (.goto (-40), 3) := by decide +kernel
theorem dX7_edge_64 : decode cX7_edge 64 = .ok (.lload_n 2, 1) := by decide +kernel
theorem dX7_edge_65 : decode cX7_edge 65 = .ok (.lreturn, 1) := by decide +kernel
set_option maxRecDepth 20000 in
theorem ggX7_rim_X7_greater4 : GoodIn wsX7_rim wsX7_greater4 := goodIn_r _ [5, 6, 7, 4, 8, 9, 10, 11, 12] (by decide +kernel) (by decide +kernel)
set_option maxRecDepth 20000 in
theorem gX7_rim_X7_greater4 : GoodIn wsX7_rim (va_wsS RX7 136 yX7_greater4 wsX7_greater4) := goodIn_app (goodIn_of _ (by decide +kernel)) ggX7_rim_X7_greater4
set_option maxRecDepth 20000 in
theorem ggX7_rim_X7_lesser4 : GoodIn wsX7_rim wsX7_lesser4 := goodIn_r _ [15, 6, 7, 4, 8, 9, 10, 11, 12] (by decide +kernel) (by decide +kernel)
set_option maxRecDepth 20000 in
theorem gX7_rim_X7_lesser4 : GoodIn wsX7_rim (va_wsS RX7 132 yX7_lesser4 wsX7_lesser4) := goodIn_app (goodIn_of _ (by decide +kernel)) ggX7_rim_X7_lesser4
theorem dX7_rim_0 : decode cX7_rim 0 = .ok (.iload_n 1, 1) := by decide +kernel
theorem dX7_rim_1 : decode cX7_rim 1 = .ok (.ifCond .lt 8, 3) := by decide +kernel
theorem dX7_rim_4 : decode cX7_rim 4 = .ok (.iload_n 1, 1) := by decide +kernel
theorem dX7_rim_5 : decode cX7_rim 5 = .ok (.iconst 1, 1) := by decide +kernel
theorem dX7_rim_6 : decode cX7_rim 6 = .ok (.if_icmp .le 5, 3) := by decide +kernel
theorem dX7_rim_9 : decode cX7_rim 9 = .ok (.iconst 0, 1) := by decide +kernel
theorem dX7_rim_10 : decode cX7_rim 10 = .ok (.ireturn, 1) := by decide +kernel
theorem dX7_rim_11 : decode cX7_rim 11 = .ok (.aload_n 0, 1) := by decide +kernel
theorem dX7_rim_12 : decode cX7_rim 12 = .ok (.getfield 13, 3) := by decide +kernel
theorem dX7_rim_15 : decode cX7_rim 15 = .ok (.iconst 0, 1) := by decide +kernel
theorem dX7_rim_16 : decode cX7_rim 16 = .ok (.iaload, 1) := by decide +kernel
theorem dX7_rim_17 : decode cX7_rim 17 = .ok (.istore_n 2, 1) := by decide +kernel
theorem dX7_rim_18 : decode cX7_rim 18 = .ok (.iconst 1, 1) := by decide +kernel
theorem dX7_rim_19 : decode cX7_rim 19 = .ok (.istore_n 3, 1) := by decide +kernel
theorem dX7_rim_20 : decode cX7_rim 20 = .ok (.iload_n 3, 1) := by decide +kernel
theorem dX7_rim_21 : decode cX7_rim 21 = .ok (.bipush 8, 2) := by decide +kernel
theorem dX7_rim_23 : decode cX7_rim 23 = .ok (.if_icmp .ge 37, 3) := by decide +kernel
theorem dX7_rim_26 : decode cX7_rim 26 = .ok (.iload_n 1, 1) := by decide +kernel
theorem dX7_rim_27 : decode cX7_rim 27 = .ok (.ifCond .ne 16, 3) := by decide +kernel
theorem dX7_rim_30 : decode cX7_rim 30 = .ok (.iload_n 2, 1) := by decide +kernel
theorem dX7_rim_31 : decode cX7_rim 31 = .ok (.aload_n 0, 1) := by decide +kernel
theorem dX7_rim_32 : decode cX7_rim 32 = .ok (.getfield 13, 3) := by decide +kernel
theorem dX7_rim_35 : decode cX7_rim 35 = .ok (.iload_n 3, 1) := by decide +kernel
theorem dX7_rim_36 : decode cX7_rim 36 = .ok (.iaload, 1) := by decide +kernel
theorem dX7_rim_37 : decode cX7_rim 37 = .ok (.invokestatic 136, 3) := by decide +kernel
theorem dX7_rim_40 : decode cX7_rim 40 = .ok (.goto 13, 3) := by decide +kernel
theorem dX7_rim_43 : decode cX7_rim 43 = .ok (.iload_n 2, 1) := by decide +kernel
theorem dX7_rim_44 : decode cX7_rim 44 = .ok (.aload_n 0, 1) := by decide +kernel
theorem dX7_rim_45 : decode cX7_rim 45 = .ok (.getfield 13, 3) := by decide +kernel
theorem dX7_rim_48 : decode cX7_rim 48 = .ok (.iload_n 3, 1) := by decide +kernel
theorem dX7_rim_49 : decode cX7_rim 49 = .ok (.iaload, 1) := by decide +kernel
theorem dX7_rim_50 : decode cX7_rim 50 = .ok (.invokestatic 132, 3) := by decide +kernel
theorem dX7_rim_53 : decode cX7_rim 53 = .ok (.istore_n 2, 1) := by decide +kernel
theorem dX7_rim_54 : decode cX7_rim 54 = .ok (.iinc 3 1, 3) := by decide +kernel
theorem dX7_rim_57 : decode cX7_rim 57 = .ok (.goto (-37), 3) := by decide +kernel
theorem dX7_rim_60 : decode cX7_rim 60 = .ok (.iload_n 2, 1) := by decide +kernel
theorem dX7_rim_61 : decode cX7_rim 61 = .ok (.ireturn, 1) := by decide +kernel
set_option maxRecDepth 20000 in
theorem ggX7_neighbour_X7_isPoint : GoodIn wsX7_neighbour wsX7_isPoint := goodIn_r _ [4] (by decide +kernel) (by decide +kernel)
set_option maxRecDepth 20000 in
theorem gX7_neighbour_X7_isPoint : GoodIn wsX7_neighbour (va_wsS RX7 170 yX7_isPoint wsX7_isPoint) := goodIn_app (goodIn_of _ (by decide +kernel)) ggX7_neighbour_X7_isPoint
set_option maxRecDepth 20000 in
theorem ggX7_neighbour_X7_far : GoodIn wsX7_neighbour wsX7_far := goodIn_r _ [8, 9, 10, 1, 2, 3, 4, 11, 12, 13, 14, 15, 16, 17, 18, 19, 20, 21, 22, 23, 24, 25, 26, 27, 28, 29, 30, 31, 32, 33, 34, 35, 36, 37, 38, 39, 40, 41, 42, 43, 44, 45, 46, 47, 48, 49, 50, 51, 52, 53, 54, 55, 56, 57, 58, 59, 60, 61, 62, 63, 64, 65, 66, 67, 68, 69, 70, 71, 72, 73, 74, 75, 76, 77] (by decide +kernel) (by decide +kernel)
set_option maxRecDepth 20000 in
theorem gX7_neighbour_X7_far : GoodIn wsX7_neighbour (wsV RX7 225 RX7 yX7_far wsX7_far) := goodIn_app (goodIn_of _ (by decide +kernel)) ggX7_neighbour_X7_far
theorem dX7_neighbour_0 : decode cX7_neighbour 0 = .ok (.iload_n 1, 1) := by decide +kernel
theorem dX7_neighbour_1 : decode cX7_neighbour 1 = .ok (.invokestatic 170, 3) := by decide +kernel
theorem dX7_neighbour_4 : decode cX7_neighbour 4 = .ok (.ifCond .ne 5, 3) := by decide +kernel
theorem dX7_neighbour_7 : decode cX7_neighbour 7 = .ok (.iconst (-1), 1) := by decide +kernel
theorem dX7_neighbour_8 : decode cX7_neighbour 8 = .ok (.ireturn, 1) := by decide +kernel
theorem dX7_neighbour_9 : decode cX7_neighbour 9 = .ok (.iconst (-1), 1) := by decide +kernel
theorem dX7_neighbour_10 : decode cX7_neighbour 10 = .ok (.istore_n 2, 1) := by decide +kernel
theorem dX7_neighbour_11 : decode cX7_neighbour 11 = .ok (.iconst 0, 1) := by decide +kernel
theorem dX7_neighbour_12 : decode cX7_neighbour 12 = .ok (.istore_n 3, 1) := by decide +kernel
theorem dX7_neighbour_13 : decode cX7_neighbour 13 = .ok (.iload_n 3, 1) := by decide +kernel
theorem dX7_neighbour_14 : decode cX7_neighbour 14 = .ok (.bipush 8, 2) := by decide +kernel
theorem dX7_neighbour_16 : decode cX7_neighbour 16 = .ok (.if_icmp .ge 40, 3) := by decide +kernel
theorem dX7_neighbour_19 : decode cX7_neighbour 19 = .ok (.iload_n 3, 1) := by decide +kernel
theorem dX7_neighbour_20 : decode cX7_neighbour 20 = .ok (.iload_n 1, 1) := by decide +kernel
theorem dX7_neighbour_21 : decode cX7_neighbour 21 = .ok (.if_icmp .ne 6, 3) := by decide +kernel
theorem dX7_neighbour_24 : decode cX7_neighbour 24 = .ok (.goto 26, 3) := by decide +kernel
theorem dX7_neighbour_27 : decode cX7_neighbour 27 = .ok (.iload_n 2, 1) := by decide +kernel
theorem dX7_neighbour_28 : decode cX7_neighbour 28 = .ok (.iconst (-1), 1) := by decide +kernel
theorem dX7_neighbour_29 : decode cX7_neighbour 29 = .ok (.if_icmp .eq 19, 3) := by decide +kernel
theorem dX7_neighbour_32 : decode cX7_neighbour 32 = .ok (.aload_n 0, 1) := by decide +kernel
theorem dX7_neighbour_33 : decode cX7_neighbour 33 = .ok (.iload_n 1, 1) := by decide +kernel
theorem dX7_neighbour_34 : decode cX7_neighbour 34 = .ok (.iload_n 3, 1) := by decide +kernel
theorem dX7_neighbour_35 : decode cX7_neighbour 35 = .ok (.invokevirtual 225, 3) := by decide +kernel
theorem dX7_neighbour_38 : decode cX7_neighbour 38 = .ok (.aload_n 0, 1) := by decide +kernel
theorem dX7_neighbour_39 : decode cX7_neighbour 39 = .ok (.iload_n 1, 1) := by decide +kernel
theorem dX7_neighbour_40 : decode cX7_neighbour 40 = .ok (.iload_n 2, 1) := by decide +kernel
theorem dX7_neighbour_41 : decode cX7_neighbour 41 = .ok (.invokevirtual 225, 3) := by decide +kernel
theorem dX7_neighbour_44 : decode cX7_neighbour 44 = .ok (.lcmp, 1) := by decide +kernel
theorem dX7_neighbour_45 : decode cX7_neighbour 45 = .ok (.ifCond .ge 5, 3) := by decide +kernel
theorem dX7_neighbour_48 : decode cX7_neighbour 48 = .ok (.iload_n 3, 1) := by decide +kernel
theorem dX7_neighbour_49 : decode cX7_neighbour 49 = .ok (.istore_n 2, 1) := by decide +kernel
theorem dX7_neighbour_50 : decode cX7_neighbour 50 = .ok (.iinc 3 1, 3) := by decide +kernel
theorem dX7_neighbour_53 : decode cX7_neighbour 53 = .ok (.goto (-40), 3) := by decide +kernel
theorem dX7_neighbour_56 : decode cX7_neighbour 56 = .ok (.iload_n 2, 1) := by decide +kernel
theorem dX7_neighbour_57 : decode cX7_neighbour 57 = .ok (.ireturn, 1) := by decide +kernel
set_option maxRecDepth 20000 in
theorem ggX7_column_X7_cell : GoodIn wsX7_column wsX7_cell := goodIn_r _ [5, 6, 7, 8, 9, 4, 10, 11, 12, 13, 14, 15, 16, 17, 18, 19, 20, 21, 22, 23, 24, 25, 26, 27, 28, 29, 30, 31, 32, 33, 34, 35, 36, 37, 38, 39, 40, 41, 42, 43, 44, 45, 46, 47, 48, 49, 50, 51, 52, 53, 54, 55, 56, 57, 58, 59, 60, 61, 62, 63, 64, 65, 66, 67, 68, 69] (by decide +kernel) (by decide +kernel)
set_option maxRecDepth 20000 in
theorem gX7_column_X7_cell : GoodIn wsX7_column (wsV RX7 218 RX7 yX7_cell wsX7_cell) := goodIn_app (goodIn_of _ (by decide +kernel)) ggX7_column_X7_cell
theorem dX7_column_0 : decode cX7_column 0 = .ok (.iload_n 1, 1) := by decide +kernel
theorem dX7_column_1 : decode cX7_column 1 = .ok (.ifCond .lt 8, 3) := by decide +kernel
theorem dX7_column_4 : decode cX7_column 4 = .ok (.iload_n 1, 1) := by decide +kernel
theorem dX7_column_5 : decode cX7_column 5 = .ok (.iconst 1, 1) := by decide +kernel
theorem dX7_column_6 : decode cX7_column 6 = .ok (.if_icmp .le 5, 3) := by decide +kernel
theorem dX7_column_9 : decode cX7_column 9 = .ok (.iconst 0, 1) := by decide +kernel
theorem dX7_column_10 : decode cX7_column 10 = .ok (.ireturn, 1) := by decide +kernel
theorem dX7_column_11 : decode cX7_column 11 = .ok (.aload_n 0, 1) := by decide +kernel
theorem dX7_column_12 : decode cX7_column 12 = .ok (.iconst 0, 1) := by decide +kernel
theorem dX7_column_13 : decode cX7_column 13 = .ok (.invokevirtual 218, 3) := by decide +kernel
theorem dX7_column_16 : decode cX7_column 16 = .ok (.istore_n 2, 1) := by decide +kernel
theorem dX7_column_17 : decode cX7_column 17 = .ok (.iconst 1, 1) := by decide +kernel
theorem dX7_column_18 : decode cX7_column 18 = .ok (.istore_n 3, 1) := by decide +kernel
theorem dX7_column_19 : decode cX7_column 19 = .ok (.iload_n 3, 1) := by decide +kernel
theorem dX7_column_20 : decode cX7_column 20 = .ok (.bipush 8, 2) := by decide +kernel
theorem dX7_column_22 : decode cX7_column 22 = .ok (.if_icmp .ge 38, 3) := by decide +kernel
theorem dX7_column_25 : decode cX7_column 25 = .ok (.aload_n 0, 1) := by decide +kernel
theorem dX7_column_26 : decode cX7_column 26 = .ok (.iload_n 3, 1) := by decide +kernel
theorem dX7_column_27 : decode cX7_column 27 = .ok (.invokevirtual 218, 3) := by decide +kernel
theorem dX7_column_30 : decode cX7_column 30 = .ok (.istore 4, 2) := by decide +kernel
theorem dX7_column_32 : decode cX7_column 32 = .ok (.iload_n 1, 1) := by decide +kernel
theorem dX7_column_33 : decode cX7_column 33 = .ok (.ifCond .ne 12, 3) := by decide +kernel
theorem dX7_column_36 : decode cX7_column 36 = .ok (.iload 4, 2) := by decide +kernel
theorem dX7_column_38 : decode cX7_column 38 = .ok (.iload_n 2, 1) := by decide +kernel
theorem dX7_column_39 : decode cX7_column 39 = .ok (.if_icmp .le 15, 3) := by decide +kernel
theorem dX7_column_42 : decode cX7_column 42 = .ok (.goto 9, 3) := by decide +kernel
theorem dX7_column_45 : decode cX7_column 45 = .ok (.iload 4, 2) := by decide +kernel
theorem dX7_column_47 : decode cX7_column 47 = .ok (.iload_n 2, 1) := by decide +kernel
theorem dX7_column_48 : decode cX7_column 48 = .ok (.if_icmp .ge 6, 3) := by decide +kernel
theorem dX7_column_51 : decode cX7_column 51 = .ok (.iload 4, 2) := by decide +kernel
theorem dX7_column_53 : decode cX7_column 53 = .ok (.istore_n 2, 1) := by decide +kernel
theorem dX7_column_54 : decode cX7_column 54 = .ok (.iinc 3 1, 3) := by decide +kernel
theorem dX7_column_57 : decode cX7_column 57 = .ok (.goto (-38), 3) := by decide +kernel
theorem dX7_column_60 : decode cX7_column 60 = .ok (.iload_n 2, 1) := by decide +kernel
theorem dX7_column_61 : decode cX7_column 61 = .ok (.ireturn, 1) := by decide +kernel
set_option maxRecDepth 20000 in
theorem ggX7_row_X7_mark : GoodIn wsX7_row wsX7_mark := goodIn_r _ [5, 6, 7, 8, 9, 4, 10, 11, 12, 13, 14, 15, 16, 17, 18, 19, 20, 21, 22, 23, 24, 25, 26, 27, 28, 29, 30, 31, 32, 33, 34, 35, 36, 37, 38, 39, 40, 41, 42, 43, 44, 45, 46, 47, 48, 49, 50, 51, 52, 53, 54, 55, 56, 57, 58, 59, 60, 61, 62, 63, 64, 65] (by decide +kernel) (by decide +kernel)
set_option maxRecDepth 20000 in
theorem gX7_row_X7_mark : GoodIn wsX7_row (wsV RX7 221 RX7 yX7_mark wsX7_mark) := goodIn_app (goodIn_of _ (by decide +kernel)) ggX7_row_X7_mark
theorem dX7_row_0 : decode cX7_row 0 = .ok (.iload_n 1, 1) := by decide +kernel
theorem dX7_row_1 : decode cX7_row 1 = .ok (.ifCond .lt 8, 3) := by decide +kernel
theorem dX7_row_4 : decode cX7_row 4 = .ok (.iload_n 1, 1) := by decide +kernel
theorem dX7_row_5 : decode cX7_row 5 = .ok (.iconst 1, 1) := by decide +kernel
theorem dX7_row_6 : decode cX7_row 6 = .ok (.if_icmp .le 5, 3) := by decide +kernel
theorem dX7_row_9 : decode cX7_row 9 = .ok (.lconst 0, 1) := by decide +kernel
theorem dX7_row_10 : decode cX7_row 10 = .ok (.lreturn, 1) := by decide +kernel
theorem dX7_row_11 : decode cX7_row 11 = .ok (.aload_n 0, 1) := by decide +kernel
theorem dX7_row_12 : decode cX7_row 12 = .ok (.iconst 0, 1) := by decide +kernel
theorem dX7_row_13 : decode cX7_row 13 = .ok (.invokevirtual 221, 3) := by decide +kernel
theorem dX7_row_16 : decode cX7_row 16 = .ok (.lstore_n 2, 1) := by decide +kernel
theorem dX7_row_17 : decode cX7_row 17 = .ok (.iconst 1, 1) := by decide +kernel
theorem dX7_row_18 : decode cX7_row 18 = .ok (.istore 4, 2) := by decide +kernel
theorem dX7_row_20 : decode cX7_row 20 = .ok (.iload 4, 2) := by decide +kernel
theorem dX7_row_22 : decode cX7_row 22 = .ok (.bipush 8, 2) := by decide +kernel
theorem dX7_row_24 : decode cX7_row 24 = .ok (.if_icmp .ge 41, 3) := by decide +kernel
theorem dX7_row_27 : decode cX7_row 27 = .ok (.aload_n 0, 1) := by decide +kernel
theorem dX7_row_28 : decode cX7_row 28 = .ok (.iload 4, 2) := by decide +kernel
theorem dX7_row_30 : decode cX7_row 30 = .ok (.invokevirtual 221, 3) := by decide +kernel
theorem dX7_row_33 : decode cX7_row 33 = .ok (.lstore 5, 2) := by decide +kernel
theorem dX7_row_35 : decode cX7_row 35 = .ok (.iload_n 1, 1) := by decide +kernel
theorem dX7_row_36 : decode cX7_row 36 = .ok (.ifCond .ne 13, 3) := by decide +kernel
theorem dX7_row_39 : decode cX7_row 39 = .ok (.lload 5, 2) := by decide +kernel
theorem dX7_row_41 : decode cX7_row 41 = .ok (.lload_n 2, 1) := by decide +kernel
theorem dX7_row_42 : decode cX7_row 42 = .ok (.lcmp, 1) := by decide +kernel
theorem dX7_row_43 : decode cX7_row 43 = .ok (.ifCond .le 16, 3) := by decide +kernel
theorem dX7_row_46 : decode cX7_row 46 = .ok (.goto 10, 3) := by decide +kernel
theorem dX7_row_49 : decode cX7_row 49 = .ok (.lload 5, 2) := by decide +kernel
theorem dX7_row_51 : decode cX7_row 51 = .ok (.lload_n 2, 1) := by decide +kernel
theorem dX7_row_52 : decode cX7_row 52 = .ok (.lcmp, 1) := by decide +kernel
theorem dX7_row_53 : decode cX7_row 53 = .ok (.ifCond .ge 6, 3) := by decide +kernel
theorem dX7_row_56 : decode cX7_row 56 = .ok (.lload 5, 2) := by decide +kernel
theorem dX7_row_58 : decode cX7_row 58 = .ok (.lstore_n 2, 1) := by decide +kernel
theorem dX7_row_59 : decode cX7_row 59 = .ok (.iinc 4 1, 3) := by decide +kernel
theorem dX7_row_62 : decode cX7_row 62 = .ok (.goto (-42), 3) := by decide +kernel
theorem dX7_row_65 : decode cX7_row 65 = .ok (.lload_n 2, 1) := by decide +kernel
theorem dX7_row_66 : decode cX7_row 66 = .ok (.lreturn, 1) := by decide +kernel
theorem dX7_count_0 : decode cX7_count 0 = .ok (.iload_n 1, 1) := by decide +kernel
theorem dX7_count_1 : decode cX7_count 1 = .ok (.ifCond .ne 10, 3) := by decide +kernel
theorem dX7_count_4 : decode cX7_count 4 = .ok (.aload_n 0, 1) := by decide +kernel
theorem dX7_count_5 : decode cX7_count 5 = .ok (.getfield 122, 3) := by decide +kernel
theorem dX7_count_8 : decode cX7_count 8 = .ok (.goto 40, 3) := by decide +kernel
theorem dX7_count_11 : decode cX7_count 11 = .ok (.iload_n 1, 1) := by decide +kernel
theorem dX7_count_12 : decode cX7_count 12 = .ok (.iconst 1, 1) := by decide +kernel
theorem dX7_count_13 : decode cX7_count 13 = .ok (.if_icmp .ne 10, 3) := by decide +kernel
theorem dX7_count_16 : decode cX7_count 16 = .ok (.aload_n 0, 1) := by decide +kernel
theorem dX7_count_17 : decode cX7_count 17 = .ok (.getfield 119, 3) := by decide +kernel
theorem dX7_count_20 : decode cX7_count 20 = .ok (.goto 28, 3) := by decide +kernel
theorem dX7_count_23 : decode cX7_count 23 = .ok (.iload_n 1, 1) := by decide +kernel
theorem dX7_count_24 : decode cX7_count 24 = .ok (.iconst 2, 1) := by decide +kernel
theorem dX7_count_25 : decode cX7_count 25 = .ok (.if_icmp .ne 10, 3) := by decide +kernel
theorem dX7_count_28 : decode cX7_count 28 = .ok (.aload_n 0, 1) := by decide +kernel
theorem dX7_count_29 : decode cX7_count 29 = .ok (.getfield 163, 3) := by decide +kernel
theorem dX7_count_32 : decode cX7_count 32 = .ok (.goto 16, 3) := by decide +kernel
theorem dX7_count_35 : decode cX7_count 35 = .ok (.iload_n 1, 1) := by decide +kernel
theorem dX7_count_36 : decode cX7_count 36 = .ok (.iconst 3, 1) := by decide +kernel
theorem dX7_count_37 : decode cX7_count 37 = .ok (.if_icmp .ne 10, 3) := by decide +kernel
theorem dX7_count_40 : decode cX7_count 40 = .ok (.aload_n 0, 1) := by decide +kernel
theorem dX7_count_41 : decode cX7_count 41 = .ok (.getfield 139, 3) := by decide +kernel
theorem dX7_count_44 : decode cX7_count 44 = .ok (.goto 4, 3) := by decide +kernel
theorem dX7_count_47 : decode cX7_count 47 = .ok (.iconst (-1), 1) := by decide +kernel
theorem dX7_count_48 : decode cX7_count 48 = .ok (.ireturn, 1) := by decide +kernel
theorem dJxe99ae_isNaN_b9ae7_0 : decode cJxe99ae_isNaN_b9ae7 0 = .ok (.dload_n 0, 1) := by decide +kernel
theorem dJxe99ae_isNaN_b9ae7_1 : decode cJxe99ae_isNaN_b9ae7 1 = .ok (.dload_n 0, 1) := by decide +kernel
theorem dJxe99ae_isNaN_b9ae7_2 : decode cJxe99ae_isNaN_b9ae7 2 = .ok (.dcmp .l, 1) := by decide +kernel
theorem dJxe99ae_isNaN_b9ae7_3 : decode cJxe99ae_isNaN_b9ae7 3 = .ok (.ifCond .eq 7, 3) := by decide +kernel
theorem dJxe99ae_isNaN_b9ae7_6 : decode cJxe99ae_isNaN_b9ae7 6 = .ok (.iconst 1, 1) := by decide +kernel
theorem dJxe99ae_isNaN_b9ae7_7 : decode cJxe99ae_isNaN_b9ae7 7 = .ok (.goto 4, 3) := by decide +kernel
theorem dJxe99ae_isNaN_b9ae7_10 : decode cJxe99ae_isNaN_b9ae7 10 = .ok (.iconst 0, 1) := by decide +kernel
theorem dJxe99ae_isNaN_b9ae7_11 : decode cJxe99ae_isNaN_b9ae7 11 = .ok (.ireturn, 1) := by decide +kernel
set_option maxRecDepth 20000 in
theorem ggJxe99ae_doubleToLongBits_ccdee_Jxe99ae_isNaN_b9ae7 : GoodIn wsJxe99ae_doubleToLongBits_ccdee wsJxe99ae_isNaN_b9ae7 := goodIn_r _ [9] (by decide +kernel) (by decide +kernel)
set_option maxRecDepth 20000 in
theorem gJxe99ae_doubleToLongBits_ccdee_Jxe99ae_isNaN_b9ae7 : GoodIn wsJxe99ae_doubleToLongBits_ccdee (va_wsS RJxe99ae 122 yJxe99ae_isNaN_b9ae7 wsJxe99ae_isNaN_b9ae7) := goodIn_app (goodIn_of _ (by decide +kernel)) ggJxe99ae_doubleToLongBits_ccdee_Jxe99ae_isNaN_b9ae7
theorem dJxe99ae_doubleToLongBits_ccdee_0 : decode cJxe99ae_doubleToLongBits_ccdee 0 = .ok (.dload_n 0, 1) := by decide +kernel
theorem dJxe99ae_doubleToLongBits_ccdee_1 : decode cJxe99ae_doubleToLongBits_ccdee 1 = .ok (.invokestatic 122, 3) := by decide +kernel
theorem dJxe99ae_doubleToLongBits_ccdee_4 : decode cJxe99ae_doubleToLongBits_ccdee 4 = .ok (.ifCond .ne 8, 3) := by decide +kernel
theorem dJxe99ae_doubleToLongBits_ccdee_7 : decode cJxe99ae_doubleToLongBits_ccdee 7 = .ok (.dload_n 0, 1) := by decide +kernel
theorem dJxe99ae_doubleToLongBits_ccdee_8 : decode cJxe99ae_doubleToLongBits_ccdee 8 = .ok (.invokestatic 134, 3) := by decide +kernel
theorem dJxe99ae_doubleToLongBits_ccdee_11 : decode cJxe99ae_doubleToLongBits_ccdee 11 = .ok (.lreturn, 1) := by decide +kernel
theorem dJxe99ae_doubleToLongBits_ccdee_12 : decode cJxe99ae_doubleToLongBits_ccdee 12 = .ok (.ldc2_w 137, 3) := by decide +kernel
theorem dJxe99ae_doubleToLongBits_ccdee_15 : decode cJxe99ae_doubleToLongBits_ccdee 15 = .ok (.lreturn, 1) := by decide +kernel
theorem dJxf58ca_isNaN_12338_0 : decode cJxf58ca_isNaN_12338 0 = .ok (.fload_n 0, 1) := by decide +kernel
theorem dJxf58ca_isNaN_12338_1 : decode cJxf58ca_isNaN_12338 1 = .ok (.fload_n 0, 1) := by decide +kernel
theorem dJxf58ca_isNaN_12338_2 : decode cJxf58ca_isNaN_12338 2 = .ok (.fcmp .l, 1) := by decide +kernel
theorem dJxf58ca_isNaN_12338_3 : decode cJxf58ca_isNaN_12338 3 = .ok (.ifCond .eq 7, 3) := by decide +kernel
theorem dJxf58ca_isNaN_12338_6 : decode cJxf58ca_isNaN_12338 6 = .ok (.iconst 1, 1) := by decide +kernel
theorem dJxf58ca_isNaN_12338_7 : decode cJxf58ca_isNaN_12338 7 = .ok (.goto 4, 3) := by decide +kernel
theorem dJxf58ca_isNaN_12338_10 : decode cJxf58ca_isNaN_12338 10 = .ok (.iconst 0, 1) := by decide +kernel
theorem dJxf58ca_isNaN_12338_11 : decode cJxf58ca_isNaN_12338 11 = .ok (.ireturn, 1) := by decide +kernel
set_option maxRecDepth 20000 in
theorem ggJxf58ca_floatToIntBits_5c35a_Jxf58ca_isNaN_12338 : GoodIn wsJxf58ca_floatToIntBits_5c35a wsJxf58ca_isNaN_12338 := goodIn_r _ [9] (by decide +kernel) (by decide +kernel)
set_option maxRecDepth 20000 in
theorem gJxf58ca_floatToIntBits_5c35a_Jxf58ca_isNaN_12338 : GoodIn wsJxf58ca_floatToIntBits_5c35a (va_wsS RJxf58ca 59 yJxf58ca_isNaN_12338 wsJxf58ca_isNaN_12338) := goodIn_app (goodIn_of _ (by decide +kernel)) ggJxf58ca_floatToIntBits_5c35a_Jxf58ca_isNaN_12338
theorem dJxf58ca_floatToIntBits_5c35a_0 : decode cJxf58ca_floatToIntBits_5c35a 0 = .ok (.fload_n 0, 1) := by decide +kernel
theorem dJxf58ca_floatToIntBits_5c35a_1 : decode cJxf58ca_floatToIntBits_5c35a 1 = .ok (.invokestatic 59, 3) := by decide +kernel
theorem dJxf58ca_floatToIntBits_5c35a_4 : decode cJxf58ca_floatToIntBits_5c35a 4 = .ok (.ifCond .ne 8, 3) := by decide +kernel
theorem dJxf58ca_floatToIntBits_5c35a_7 : decode cJxf58ca_floatToIntBits_5c35a 7 = .ok (.fload_n 0, 1) := by decide +kernel
theorem dJxf58ca_floatToIntBits_5c35a_8 : decode cJxf58ca_floatToIntBits_5c35a 8 = .ok (.invokestatic 74, 3) := by decide +kernel
theorem dJxf58ca_floatToIntBits_5c35a_11 : decode cJxf58ca_floatToIntBits_5c35a 11 = .ok (.ireturn, 1) := by decide +kernel
theorem dJxf58ca_floatToIntBits_5c35a_12 : decode cJxf58ca_floatToIntBits_5c35a 12 = .ok (.ldc 77, 2) := by decide +kernel
theorem dJxf58ca_floatToIntBits_5c35a_14 : decode cJxf58ca_floatToIntBits_5c35a 14 = .ok (.ireturn, 1) := by decide +kernel
theorem dJ9_abs_0f7a4_0 : decode cJ9_abs_0f7a4 0 = .ok (.iload_n 0, 1) := by decide +kernel
theorem dJ9_abs_0f7a4_1 : decode cJ9_abs_0f7a4 1 = .ok (.ifCond .ge 8, 3) := by decide +kernel
theorem dJ9_abs_0f7a4_4 : decode cJ9_abs_0f7a4 4 = .ok (.iload_n 0, 1) := by decide +kernel
theorem dJ9_abs_0f7a4_5 : decode cJ9_abs_0f7a4 5 = .ok (.ineg, 1) := by decide +kernel
theorem dJ9_abs_0f7a4_6 : decode cJ9_abs_0f7a4 6 = .ok (.goto 4, 3) := by decide +kernel
theorem dJ9_abs_0f7a4_9 : decode cJ9_abs_0f7a4 9 = .ok (.iload_n 0, 1) := by decide +kernel
theorem dJ9_abs_0f7a4_10 : decode cJ9_abs_0f7a4 10 = .ok (.ireturn, 1) := by decide +kernel
theorem dJ9_abs_067f4_0 : decode cJ9_abs_067f4 0 = .ok (.lload_n 0, 1) := by decide +kernel
theorem dJ9_abs_067f4_1 : decode cJ9_abs_067f4 1 = .ok (.lconst 0, 1) := by decide +kernel
theorem dJ9_abs_067f4_2 : decode cJ9_abs_067f4 2 = .ok (.lcmp, 1) := by decide +kernel
theorem dJ9_abs_067f4_3 : decode cJ9_abs_067f4 3 = .ok (.ifCond .ge 8, 3) := by decide +kernel
theorem dJ9_abs_067f4_6 : decode cJ9_abs_067f4 6 = .ok (.lload_n 0, 1) := by decide +kernel
theorem dJ9_abs_067f4_7 : decode cJ9_abs_067f4 7 = .ok (.lneg, 1) := by decide +kernel
theorem dJ9_abs_067f4_8 : decode cJ9_abs_067f4 8 = .ok (.goto 4, 3) := by decide +kernel
theorem dJ9_abs_067f4_11 : decode cJ9_abs_067f4 11 = .ok (.lload_n 0, 1) := by decide +kernel
theorem dJ9_abs_067f4_12 : decode cJ9_abs_067f4 12 = .ok (.lreturn, 1) := by decide +kernel
set_option maxRecDepth 20000 in
theorem ggL_law_X6_init : GoodIn wsL_law wsX6_init := goodIn_r _ [9, 10, 11, 12, 13, 14, 15, 16, 17, 18, 19, 20, 21, 22, 23, 24, 25, 26, 27, 28, 29, 30, 31, 32, 33, 34, 35, 36, 37, 38, 39, 40, 41, 42, 43, 674, 675, 676, 677, 678, 650, 651, 652, 653, 654, 655, 656, 679, 680, 681, 682, 683] (by decide +kernel) (by decide +kernel)
set_option maxRecDepth 20000 in
theorem gL_law_X6_init : GoodIn wsL_law (wsX6_init) := ggL_law_X6_init
set_option maxRecDepth 20000 in
theorem ggL_law_X7_init : GoodIn wsL_law wsX7_init := goodIn_r _ [46, 47, 11, 12, 22, 48, 40, 49, 50, 51, 52, 53, 54, 55, 56, 57, 58, 59, 60, 61, 62, 63, 64, 65, 66, 67, 657, 658, 659, 660, 661, 662, 663, 664, 665, 666, 667, 668, 669, 670, 671, 672, 673] (by decide +kernel) (by decide +kernel)
set_option maxRecDepth 20000 in
theorem gL_law_X7_init : GoodIn wsL_law (wsX7_init) := ggL_law_X7_init
set_option maxRecDepth 20000 in
theorem ggL_law_X6_place : GoodIn wsL_law wsX6_place := goodIn_r _ [71, 72, 73, 74, 75, 76, 77, 78, 79, 80, 81, 82, 83, 84, 85, 86, 87, 88, 89, 90, 91, 92, 93, 94, 95, 96, 97, 98, 99, 100, 101, 102, 103, 104, 105, 106, 107, 108, 109, 110, 111, 112, 113, 114, 115, 116, 117, 2, 118, 119, 120, 121, 122, 123, 124, 125, 126, 127, 128, 129, 130, 131, 132, 133, 134, 16, 17, 135, 136, 137, 138, 15, 139, 33, 31, 140, 141, 142, 143, 144, 145, 146, 147, 148, 149, 150, 151, 152, 21, 153, 154, 155, 20, 156, 41, 157, 42, 43, 158, 159, 160, 161, 162, 163, 650, 651, 652, 653, 654, 655, 656, 674, 675, 676, 677, 678, 679, 680, 681, 682, 683] (by decide +kernel) (by decide +kernel)
set_option maxRecDepth 20000 in
theorem gL_law_X6_place : GoodIn wsL_law (wsV RL 15 RX6 yX6_place wsX6_place) := goodIn_app (goodIn_of _ (by decide +kernel)) ggL_law_X6_place
set_option maxRecDepth 20000 in
theorem ggL_law_X7_place : GoodIn wsL_law wsX7_place := goodIn_r _ [167, 168, 169, 5, 170, 171, 172, 173, 174, 175, 176, 177, 178, 52, 179, 180, 181, 182, 183, 184, 185, 58, 186, 187, 188, 189, 190, 191, 192, 193, 194, 195, 196, 197, 198, 199, 200, 48, 49, 201, 202, 203, 204, 53, 51, 205, 206, 207, 208, 209, 210, 211, 212, 213, 214, 215, 216, 217, 218, 59, 57, 219, 220, 221, 222, 223, 224, 225, 226, 227, 228, 229, 230, 231, 65, 232, 66, 67, 233, 234, 235, 236, 237, 657, 658, 659, 660, 661, 662, 663, 664, 665, 666, 667, 668, 669, 670, 671, 672, 673] (by decide +kernel) (by decide +kernel)
set_option maxRecDepth 20000 in
theorem gL_law_X7_place : GoodIn wsL_law (wsV RL 19 RX7 yX7_place wsX7_place) := goodIn_app (goodIn_of _ (by decide +kernel)) ggL_law_X7_place
set_option maxRecDepth 20000 in
theorem ggL_law_X6_walls : GoodIn wsL_law wsX6_walls := goodIn_r _ [241, 16, 242, 243, 244, 2, 245, 135, 21, 124, 125, 85, 126, 127, 87, 119, 120, 121, 122, 123, 246, 247, 248, 249, 250, 251, 252, 253, 254, 129, 130, 89, 90, 91, 92, 93, 113, 114, 115, 97, 98, 99, 100, 101, 102, 103, 104, 105, 106, 107, 108, 109, 255, 256, 257, 15, 258, 31, 33, 29, 259, 137, 138, 139, 140, 141, 142, 143, 144, 145, 146, 147, 148, 260, 261, 262, 20, 263, 158, 159, 160, 161, 162, 163, 650, 651, 652, 653, 654, 655, 656, 674, 675, 676, 677, 678, 679, 680, 681, 682, 683] (by decide +kernel) (by decide +kernel)
set_option maxRecDepth 20000 in
theorem gL_law_X6_walls : GoodIn wsL_law (wsV RL 20 RX6 yX6_walls wsX6_walls) := goodIn_app (goodIn_of _ (by decide +kernel)) ggL_law_X6_walls
set_option maxRecDepth 20000 in
theorem ggL_law_X7_walls : GoodIn wsL_law wsX7_walls := goodIn_r _ [267, 51, 53, 48, 200, 232, 176, 177, 5, 178, 52, 179, 180, 181, 182, 171, 172, 173, 174, 175, 268, 269, 270, 208, 209, 210, 211, 201, 202, 203, 204, 205, 206, 207, 212, 213, 214, 233, 234, 235, 236, 237, 657, 658, 659, 660, 661, 662, 663, 664, 665, 666, 667, 668, 669, 670, 671, 672, 673] (by decide +kernel) (by decide +kernel)
set_option maxRecDepth 20000 in
theorem gL_law_X7_walls : GoodIn wsL_law (wsV RL 24 RX7 yX7_walls wsX7_walls) := goodIn_app (goodIn_of _ (by decide +kernel)) ggL_law_X7_walls
set_option maxRecDepth 20000 in
theorem ggL_law_X6_rails : GoodIn wsL_law wsX6_rails := goodIn_r _ [274, 17, 72, 73, 74, 75, 76, 77, 78, 79, 80, 81, 82, 83, 84, 85, 86, 87, 88, 89, 90, 91, 92, 93, 94, 95, 96, 97, 98, 99, 100, 101, 102, 103, 104, 105, 106, 107, 108, 109, 110, 111, 112, 113, 114, 115, 242, 243, 244, 2, 245, 135, 21, 124, 125, 126, 127, 119, 120, 121, 122, 123, 246, 247, 248, 249, 250, 251, 252, 253, 254, 129, 130, 255, 256, 257, 15, 258, 31, 33, 29, 259, 137, 138, 139, 140, 141, 142, 143, 144, 145, 146, 147, 148, 260, 261, 262, 20, 263, 158, 159, 160, 161, 162, 163, 650, 651, 652, 653, 654, 655, 656, 674, 675, 676, 677, 678, 679, 680, 681, 682, 683] (by decide +kernel) (by decide +kernel)
set_option maxRecDepth 20000 in
theorem gL_law_X6_rails : GoodIn wsL_law (wsV RL 25 RX6 yX6_rails wsX6_rails) := goodIn_app (goodIn_of _ (by decide +kernel)) ggL_law_X6_rails
set_option maxRecDepth 20000 in
theorem ggL_law_X7_rails : GoodIn wsL_law wsX7_rails := goodIn_r _ [278, 57, 59, 49, 200, 232, 183, 184, 5, 185, 58, 186, 187, 188, 189, 171, 172, 173, 174, 175, 279, 280, 281, 222, 223, 224, 215, 216, 217, 218, 219, 220, 221, 225, 226, 227, 233, 234, 235, 236, 237, 657, 658, 659, 660, 661, 662, 663, 664, 665, 666, 667, 668, 669, 670, 671, 672, 673] (by decide +kernel) (by decide +kernel)
set_option maxRecDepth 20000 in
theorem gL_law_X7_rails : GoodIn wsL_law (wsV RL 29 RX7 yX7_rails wsX7_rails) := goodIn_app (goodIn_of _ (by decide +kernel)) ggL_law_X7_rails
set_option maxRecDepth 20000 in
theorem ggL_law_X6_steps : GoodIn wsL_law wsX6_steps := goodIn_r _ [285, 16, 17, 72, 73, 74, 75, 76, 77, 78, 79, 80, 81, 82, 83, 84, 85, 86, 87, 88, 89, 90, 91, 92, 93, 94, 95, 96, 97, 98, 99, 100, 101, 102, 103, 104, 105, 106, 107, 108, 109, 110, 111, 112, 113, 114, 115, 124, 125, 126, 127, 119, 120, 121, 2, 122, 123, 128, 129, 130, 286, 287, 288, 159, 160, 161, 162, 163, 650, 651, 652, 653, 654, 655, 656, 674, 675, 676, 677, 678] (by decide +kernel) (by decide +kernel)
set_option maxRecDepth 20000 in
theorem gL_law_X6_steps : GoodIn wsL_law (wsV RL 30 RX6 yX6_steps wsX6_steps) := goodIn_app (goodIn_of _ (by decide +kernel)) ggL_law_X6_steps
set_option maxRecDepth 20000 in
theorem ggL_law_X7_steps : GoodIn wsL_law wsX7_steps := goodIn_r _ [292, 55, 61, 176, 177, 5, 178, 52, 179, 180, 181, 182, 183, 184, 185, 58, 186, 187, 188, 189, 171, 172, 173, 174, 175, 190, 191, 192, 193, 194, 195, 268, 269, 270, 208, 209, 210, 211, 279, 280, 281, 222, 223, 224, 233, 234, 235, 236, 237, 657, 658, 659, 660, 661, 662, 663, 664, 665, 666, 667, 668, 669, 670, 671, 672, 673] (by decide +kernel) (by decide +kernel)
set_option maxRecDepth 20000 in
theorem gL_law_X7_steps : GoodIn wsL_law (wsV RL 34 RX7 yX7_steps wsX7_steps) := goodIn_app (goodIn_of _ (by decide +kernel)) ggL_law_X7_steps
set_option maxRecDepth 20000 in
theorem ggL_law_X6_move : GoodIn wsL_law wsX6_move := goodIn_r _ [296, 16, 17, 72, 73, 74, 75, 76, 77, 78, 79, 80, 81, 82, 83, 84, 85, 86, 87, 88, 89, 90, 91, 92, 93, 94, 95, 96, 97, 98, 99, 100, 101, 102, 103, 104, 105, 106, 107, 108, 109, 110, 111, 112, 113, 114, 115, 116, 117, 2, 118, 119, 120, 121, 122, 123, 124, 125, 126, 127, 297, 298, 299, 15, 300, 36, 301, 302, 247, 248, 249, 250, 251, 252, 253, 254, 129, 130, 303, 304, 305, 306, 307, 131, 132, 133, 134, 135, 136, 137, 138, 139, 33, 31, 140, 141, 142, 143, 144, 145, 146, 147, 148, 128, 149, 150, 151, 152, 21, 153, 154, 155, 20, 156, 41, 157, 42, 43, 158, 159, 160, 161, 162, 163, 650, 651, 652, 653, 654, 655, 656, 674, 675, 676, 677, 678, 679, 680, 681, 682, 683] (by decide +kernel) (by decide +kernel)
set_option maxRecDepth 20000 in
theorem gL_law_X6_move : GoodIn wsL_law (wsV RL 35 RX6 yX6_move wsX6_move) := goodIn_app (goodIn_of _ (by decide +kernel)) ggL_law_X6_move
set_option maxRecDepth 20000 in
theorem ggL_law_X7_move : GoodIn wsL_law wsX7_move := goodIn_r _ [311, 48, 49, 168, 169, 5, 170, 171, 172, 173, 174, 175, 176, 177, 178, 52, 179, 180, 181, 182, 183, 184, 185, 58, 186, 187, 188, 189, 312, 313, 314, 315, 316, 317, 318, 319, 320, 321, 322, 323, 324, 325, 326, 327, 328, 329, 330, 331, 332, 333, 334, 335, 336, 337, 338, 339, 340, 341, 342, 343, 344, 345, 346, 347, 348, 349, 350, 351, 352, 353, 196, 197, 198, 199, 200, 201, 202, 203, 204, 53, 51, 205, 206, 207, 208, 209, 210, 211, 212, 213, 214, 215, 216, 217, 218, 59, 57, 219, 220, 221, 222, 223, 224, 225, 226, 227, 190, 191, 192, 193, 194, 195, 228, 229, 230, 231, 65, 232, 66, 67, 233, 234, 235, 236, 237, 657, 658, 659, 660, 661, 662, 663, 664, 665, 666, 667, 668, 669, 670, 671, 672, 673] (by decide +kernel) (by decide +kernel)
set_option maxRecDepth 20000 in
theorem gL_law_X7_move : GoodIn wsL_law (wsV RL 38 RX7 yX7_move wsX7_move) := goodIn_app (goodIn_of _ (by decide +kernel)) ggL_law_X7_move
set_option maxRecDepth 20000 in
theorem ggL_law_X6_snap : GoodIn wsL_law wsX6_snap := goodIn_r _ [357, 16, 17, 116, 117, 2, 118, 358, 359, 360, 361, 119, 120, 121, 122, 123, 362, 363, 364, 15, 365, 35, 36, 366, 367, 368, 369, 370, 250, 85, 251, 127, 252, 253, 254, 129, 130, 87, 89, 90, 91, 92, 93, 113, 114, 115, 97, 98, 99, 100, 101, 102, 103, 104, 105, 106, 107, 108, 109, 371, 84, 86, 88, 94, 95, 96, 110, 111, 112, 372, 373, 374, 306, 375, 376, 377, 378, 379, 380, 381, 382, 383, 384, 385, 386, 387, 131, 132, 133, 134, 135, 136, 137, 138, 139, 33, 31, 140, 141, 142, 143, 144, 145, 146, 147, 148, 128, 149, 150, 151, 152, 21, 153, 154, 155, 20, 156, 41, 157, 42, 43, 158, 159, 160, 161, 162, 163, 650, 651, 652, 653, 654, 655, 656, 674, 675, 676, 677, 678, 679, 680, 681, 682, 683] (by decide +kernel) (by decide +kernel)
set_option maxRecDepth 20000 in
theorem gL_law_X6_snap : GoodIn wsL_law (wsV RL 39 RX6 yX6_snap wsX6_snap) := goodIn_app (goodIn_of _ (by decide +kernel)) ggL_law_X6_snap
set_option maxRecDepth 20000 in
theorem ggL_law_X7_snap : GoodIn wsL_law wsX7_snap := goodIn_r _ [391, 48, 55, 49, 61, 168, 169, 5, 170, 171, 172, 173, 174, 175, 312, 313, 314, 315, 316, 317, 318, 319, 320, 321, 322, 323, 324, 325, 326, 327, 328, 329, 330, 331, 332, 392, 393, 394, 395, 396, 54, 397, 179, 180, 181, 182, 398, 399, 400, 333, 334, 335, 336, 337, 338, 339, 340, 341, 342, 343, 344, 345, 346, 347, 348, 349, 350, 351, 352, 353, 401, 402, 403, 404, 405, 60, 186, 187, 188, 189, 196, 197, 198, 199, 200, 201, 202, 203, 204, 53, 51, 205, 206, 207, 208, 209, 210, 211, 212, 213, 214, 215, 216, 217, 218, 59, 57, 219, 220, 221, 222, 223, 224, 225, 226, 227, 190, 191, 192, 52, 193, 194, 195, 58, 228, 229, 230, 231, 65, 232, 66, 67, 233, 234, 235, 236, 237, 657, 658, 659, 660, 661, 662, 663, 664, 665, 666, 667, 668, 669, 670, 671, 672, 673] (by decide +kernel) (by decide +kernel)
set_option maxRecDepth 20000 in
theorem gL_law_X7_snap : GoodIn wsL_law (wsV RL 42 RX7 yX7_snap wsX7_snap) := goodIn_app (goodIn_of _ (by decide +kernel)) ggL_law_X7_snap
set_option maxRecDepth 20000 in
theorem ggL_law_X6_lean : GoodIn wsL_law wsX6_lean := goodIn_r _ [409, 16, 17, 116, 117, 2, 118, 119, 120, 121, 122, 123, 410, 373, 85, 374, 127, 306, 131, 132, 133, 134, 135, 136, 137, 138, 15, 139, 33, 31, 140, 141, 142, 143, 144, 145, 146, 147, 148, 128, 129, 130, 87, 149, 150, 151, 152, 21, 153, 154, 155, 20, 156, 41, 157, 42, 43, 158, 159, 160, 161, 162, 163, 650, 651, 652, 653, 654, 655, 656, 674, 675, 676, 677, 678, 679, 680, 681, 682, 683] (by decide +kernel) (by decide +kernel)
set_option maxRecDepth 20000 in
theorem gL_law_X6_lean : GoodIn wsL_law (wsV RL 43 RX6 yX6_lean wsX6_lean) := goodIn_app (goodIn_of _ (by decide +kernel)) ggL_law_X6_lean
set_option maxRecDepth 20000 in
theorem ggL_law_X7_lean : GoodIn wsL_law wsX7_lean := goodIn_r _ [414, 48, 395, 49, 404, 168, 169, 5, 170, 171, 172, 173, 174, 175, 179, 180, 181, 182, 186, 187, 188, 189, 196, 197, 198, 199, 200, 201, 202, 203, 204, 53, 51, 205, 206, 207, 208, 209, 210, 211, 212, 213, 214, 215, 216, 217, 218, 59, 57, 219, 220, 221, 222, 223, 224, 225, 226, 227, 190, 191, 192, 52, 193, 194, 195, 58, 228, 229, 230, 231, 65, 232, 66, 67, 233, 234, 235, 236, 237, 657, 658, 659, 660, 661, 662, 663, 664, 665, 666, 667, 668, 669, 670, 671, 672, 673] (by decide +kernel) (by decide +kernel)
set_option maxRecDepth 20000 in
theorem gL_law_X7_lean : GoodIn wsL_law (wsV RL 46 RX7 yX7_lean wsX7_lean) := goodIn_app (goodIn_of _ (by decide +kernel)) ggL_law_X7_lean
set_option maxRecDepth 20000 in
theorem ggL_law_X6_pull : GoodIn wsL_law wsX6_pull := goodIn_r _ [418, 16, 17, 116, 117, 2, 118, 419, 420, 421, 119, 120, 121, 122, 123, 422, 423, 85, 424, 425, 147, 148, 143, 144, 145, 127, 426, 141, 142, 149, 150, 151, 152, 21, 153, 154, 155, 20, 156, 41, 157, 42, 43, 158, 159, 160, 161, 162, 163, 650, 651, 652, 653, 654, 655, 656, 674, 675, 676, 677, 678, 679, 680, 681, 682, 683] (by decide +kernel) (by decide +kernel)
set_option maxRecDepth 20000 in
theorem gL_law_X6_pull : GoodIn wsL_law (wsV RL 47 RX6 yX6_pull wsX6_pull) := goodIn_app (goodIn_of _ (by decide +kernel)) ggL_law_X6_pull
set_option maxRecDepth 20000 in
theorem ggL_law_X7_pull : GoodIn wsL_law wsX7_pull := goodIn_r _ [430, 48, 49, 168, 169, 5, 170, 171, 172, 173, 174, 175, 228, 229, 230, 231, 65, 232, 66, 67, 212, 213, 214, 208, 209, 210, 211, 179, 180, 181, 182, 205, 206, 207, 225, 226, 227, 222, 223, 224, 186, 187, 188, 189, 219, 220, 221, 233, 234, 235, 236, 237, 657, 658, 659, 660, 661, 662, 663, 664, 665, 666, 667, 668, 669, 670, 671, 672, 673] (by decide +kernel) (by decide +kernel)
set_option maxRecDepth 20000 in
theorem gL_law_X7_pull : GoodIn wsL_law (wsV RL 51 RX7 yX7_pull wsX7_pull) := goodIn_app (goodIn_of _ (by decide +kernel)) ggL_law_X7_pull
set_option maxRecDepth 20000 in
theorem ggL_law_X6_swing : GoodIn wsL_law wsX6_swing := goodIn_r _ [434, 16, 17, 116, 117, 2, 118, 119, 120, 121, 122, 123, 124, 125, 85, 126, 127, 87, 128, 129, 130, 297, 298, 299, 15, 300, 36, 301, 302, 247, 248, 249, 250, 251, 252, 253, 254, 89, 90, 91, 92, 93, 113, 114, 115, 97, 98, 99, 100, 101, 102, 103, 104, 105, 106, 107, 108, 109, 303, 304, 305, 306, 307, 84, 86, 88, 94, 95, 96, 110, 111, 112, 435, 436, 437, 131, 132, 133, 134, 135, 136, 137, 138, 139, 33, 31, 140, 141, 142, 143, 144, 145, 146, 147, 148, 149, 150, 151, 152, 21, 153, 154, 155, 20, 156, 41, 157, 42, 43, 158, 159, 160, 161, 162, 163, 650, 651, 652, 653, 654, 655, 656, 674, 675, 676, 677, 678, 679, 680, 681, 682, 683] (by decide +kernel) (by decide +kernel)
set_option maxRecDepth 20000 in
theorem gL_law_X6_swing : GoodIn wsL_law (wsV RL 52 RX6 yX6_swing wsX6_swing) := goodIn_app (goodIn_of _ (by decide +kernel)) ggL_law_X6_swing
set_option maxRecDepth 20000 in
theorem ggL_law_X7_swing : GoodIn wsL_law wsX7_swing := goodIn_r _ [441, 48, 49, 404, 168, 169, 5, 170, 171, 172, 173, 174, 175, 176, 177, 178, 52, 179, 180, 181, 182, 190, 191, 192, 312, 313, 314, 315, 316, 317, 318, 319, 320, 321, 322, 323, 324, 325, 326, 327, 328, 329, 330, 331, 332, 196, 197, 198, 199, 200, 201, 202, 203, 204, 53, 51, 205, 206, 207, 208, 209, 210, 211, 212, 213, 214, 215, 216, 217, 218, 59, 57, 219, 220, 221, 222, 223, 224, 186, 187, 188, 189, 225, 226, 227, 193, 194, 195, 58, 228, 229, 230, 231, 65, 232, 66, 67, 233, 234, 235, 236, 237, 657, 658, 659, 660, 661, 662, 663, 664, 665, 666, 667, 668, 669, 670, 671, 672, 673] (by decide +kernel) (by decide +kernel)
set_option maxRecDepth 20000 in
theorem gL_law_X7_swing : GoodIn wsL_law (wsV RL 56 RX7 yX7_swing wsX7_swing) := goodIn_app (goodIn_of _ (by decide +kernel)) ggL_law_X7_swing
set_option maxRecDepth 20000 in
theorem ggL_law_X6_guide : GoodIn wsL_law wsX6_guide := goodIn_r _ [445, 23, 119, 120, 121, 2, 122, 123, 124, 125, 85, 126, 127, 87, 159, 160, 161, 162, 163, 650, 651, 652, 653, 654, 655, 656] (by decide +kernel) (by decide +kernel)
set_option maxRecDepth 20000 in
theorem gL_law_X6_guide : GoodIn wsL_law (wsV RL 57 RX6 yX6_guide wsX6_guide) := goodIn_app (goodIn_of _ (by decide +kernel)) ggL_law_X6_guide
set_option maxRecDepth 20000 in
theorem ggL_law_X7_guide : GoodIn wsL_law wsX7_guide := goodIn_r _ [449, 64, 62, 171, 172, 173, 5, 174, 175, 176, 177, 178, 52, 179, 180, 181, 182, 190, 191, 192, 233, 234, 235, 236, 237, 657, 658, 659, 660, 661, 662, 663, 664, 665, 666, 667, 668, 669, 670, 671, 672, 673] (by decide +kernel) (by decide +kernel)
set_option maxRecDepth 20000 in
theorem gL_law_X7_guide : GoodIn wsL_law (wsV RL 60 RX7 yX7_guide wsX7_guide) := goodIn_app (goodIn_of _ (by decide +kernel)) ggL_law_X7_guide
set_option maxRecDepth 20000 in
theorem ggL_law_X6_stick : GoodIn wsL_law wsX6_stick := goodIn_r _ [453, 16, 23, 17, 116, 117, 2, 118, 119, 120, 121, 122, 123, 124, 125, 85, 126, 127, 87, 246, 247, 248, 249, 250, 251, 252, 253, 254, 129, 130, 89, 90, 91, 92, 93, 113, 114, 115, 97, 98, 99, 100, 101, 102, 103, 104, 105, 106, 107, 108, 109, 454, 455, 456, 457, 128, 458, 459, 460, 15, 461, 36, 302, 131, 132, 133, 134, 135, 136, 137, 138, 139, 33, 31, 140, 141, 142, 143, 144, 145, 146, 147, 148, 149, 150, 151, 152, 21, 153, 154, 155, 20, 156, 41, 157, 42, 43, 158, 159, 160, 161, 162, 163, 650, 651, 652, 653, 654, 655, 656, 674, 675, 676, 677, 678, 679, 680, 681, 682, 683] (by decide +kernel) (by decide +kernel)
set_option maxRecDepth 20000 in
theorem gL_law_X6_stick : GoodIn wsL_law (wsV RL 61 RX6 yX6_stick wsX6_stick) := goodIn_app (goodIn_of _ (by decide +kernel)) ggL_law_X6_stick
set_option maxRecDepth 20000 in
theorem ggL_law_X7_stick : GoodIn wsL_law wsX7_stick := goodIn_r _ [465, 64, 48, 62, 49, 168, 169, 5, 170, 171, 172, 173, 174, 175, 176, 177, 178, 52, 179, 180, 181, 182, 268, 269, 270, 208, 209, 210, 211, 312, 313, 314, 315, 316, 317, 318, 319, 320, 321, 322, 323, 324, 325, 326, 327, 328, 329, 330, 331, 332, 196, 197, 198, 199, 200, 201, 202, 203, 204, 53, 51, 205, 206, 207, 212, 213, 214, 215, 216, 217, 218, 59, 57, 219, 220, 221, 222, 223, 224, 186, 187, 188, 189, 225, 226, 227, 190, 191, 192, 193, 194, 195, 58, 228, 229, 230, 231, 65, 232, 66, 67, 233, 234, 235, 236, 237, 657, 658, 659, 660, 661, 662, 663, 664, 665, 666, 667, 668, 669, 670, 671, 672, 673] (by decide +kernel) (by decide +kernel)
set_option maxRecDepth 20000 in
theorem gL_law_X7_stick : GoodIn wsL_law (wsV RL 64 RX7 yX7_stick wsX7_stick) := goodIn_app (goodIn_of _ (by decide +kernel)) ggL_law_X7_stick
set_option maxRecDepth 20000 in
theorem ggL_law_X6_undo : GoodIn wsL_law wsX6_undo := goodIn_r _ [469, 21, 16, 17, 470, 471, 472, 20, 473, 157, 158, 650, 651, 652, 653, 654, 655, 656, 679, 680, 681, 682, 683, 674, 675, 676, 677, 678] (by decide +kernel) (by decide +kernel)
set_option maxRecDepth 20000 in
theorem gL_law_X6_undo : GoodIn wsL_law (wsV RL 65 RX6 yX6_undo wsX6_undo) := goodIn_app (goodIn_of _ (by decide +kernel)) ggL_law_X6_undo
set_option maxRecDepth 20000 in
theorem ggL_law_X7_undo : GoodIn wsL_law wsX7_undo := goodIn_r _ [477, 232, 65, 48, 66, 49, 67, 657, 658, 659, 660, 661, 662, 663, 664, 665, 666, 667, 668, 669, 670, 671, 672, 673] (by decide +kernel) (by decide +kernel)
set_option maxRecDepth 20000 in
theorem gL_law_X7_undo : GoodIn wsL_law (wsV RL 69 RX7 yX7_undo wsX7_undo) := goodIn_app (goodIn_of _ (by decide +kernel)) ggL_law_X7_undo
set_option maxRecDepth 20000 in
theorem ggL_law_X6_x : GoodIn wsL_law wsX6_x := goodIn_r _ [481, 16, 116, 117, 2, 118, 650, 651, 652, 653, 654, 655, 656, 674, 675, 676, 677, 678] (by decide +kernel) (by decide +kernel)
set_option maxRecDepth 20000 in
theorem gL_law_X6_x : GoodIn wsL_law (wsV RL 70 RX6 yX6_x wsX6_x) := goodIn_app (goodIn_of _ (by decide +kernel)) ggL_law_X6_x
set_option maxRecDepth 20000 in
theorem ggL_law_X7_x : GoodIn wsL_law wsX7_x := goodIn_r _ [485, 48, 168, 169, 5, 170, 657, 658, 659, 660, 661, 662, 663, 664, 665, 666, 667, 668, 669, 670, 671, 672, 673] (by decide +kernel) (by decide +kernel)
set_option maxRecDepth 20000 in
theorem gL_law_X7_x : GoodIn wsL_law (wsV RL 74 RX7 yX7_x wsX7_x) := goodIn_app (goodIn_of _ (by decide +kernel)) ggL_law_X7_x
set_option maxRecDepth 20000 in
theorem ggL_law_X6_y : GoodIn wsL_law wsX6_y := goodIn_r _ [489, 17, 116, 117, 2, 118, 490, 491, 74, 492, 493, 494, 495, 496, 82, 497, 250, 85, 251, 127, 252, 253, 254, 129, 130, 87, 89, 90, 91, 92, 93, 113, 114, 115, 97, 98, 99, 100, 101, 102, 103, 104, 105, 106, 107, 108, 109, 650, 651, 652, 653, 654, 655, 656, 674, 675, 676, 677, 678] (by decide +kernel) (by decide +kernel)
set_option maxRecDepth 20000 in
theorem gL_law_X6_y : GoodIn wsL_law (wsV RL 75 RX6 yX6_y wsX6_y) := goodIn_app (goodIn_of _ (by decide +kernel)) ggL_law_X6_y
set_option maxRecDepth 20000 in
theorem ggL_law_X7_y : GoodIn wsL_law wsX7_y := goodIn_r _ [501, 49, 168, 169, 5, 170, 657, 658, 659, 660, 661, 662, 663, 664, 665, 666, 667, 668, 669, 670, 671, 672, 673] (by decide +kernel) (by decide +kernel)
set_option maxRecDepth 20000 in
theorem gL_law_X7_y : GoodIn wsL_law (wsV RL 79 RX7 yX7_y wsX7_y) := goodIn_app (goodIn_of _ (by decide +kernel)) ggL_law_X7_y
set_option maxRecDepth 20000 in
theorem ggL_law_X6_side : GoodIn wsL_law wsX6_side := goodIn_r _ [505, 16, 116, 117, 2, 118, 506, 507, 85, 508, 127, 509, 510, 373, 374, 306, 650, 651, 652, 653, 654, 655, 656, 674, 675, 676, 677, 678] (by decide +kernel) (by decide +kernel)
set_option maxRecDepth 20000 in
theorem gL_law_X6_side : GoodIn wsL_law (wsV RL 80 RX6 yX6_side wsX6_side) := goodIn_app (goodIn_of _ (by decide +kernel)) ggL_law_X6_side
set_option maxRecDepth 20000 in
theorem ggL_law_X7_side : GoodIn wsL_law wsX7_side := goodIn_r _ [514, 48, 54, 395, 168, 169, 5, 170, 179, 180, 181, 182, 657, 658, 659, 660, 661, 662, 663, 664, 665, 666, 667, 668, 669, 670, 671, 672, 673] (by decide +kernel) (by decide +kernel)
set_option maxRecDepth 20000 in
theorem gL_law_X7_side : GoodIn wsL_law (wsV RL 83 RX7 yX7_side wsX7_side) := goodIn_app (goodIn_of _ (by decide +kernel)) ggL_law_X7_side
set_option maxRecDepth 20000 in
theorem ggL_law_X6_lift : GoodIn wsL_law wsX6_lift := goodIn_r _ [518, 17, 116, 117, 2, 118, 506, 507, 85, 508, 127, 509, 510, 373, 374, 306, 490, 491, 74, 492, 493, 494, 495, 496, 82, 497, 250, 251, 252, 253, 254, 129, 130, 87, 89, 90, 91, 92, 93, 113, 114, 115, 97, 98, 99, 100, 101, 102, 103, 104, 105, 106, 107, 108, 109, 650, 651, 652, 653, 654, 655, 656, 674, 675, 676, 677, 678] (by decide +kernel) (by decide +kernel)
