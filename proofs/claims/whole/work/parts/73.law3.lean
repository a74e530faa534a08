section
/-! THE LAW: its calls, one by one -/
set_option maxHeartbeats 4000000 in
set_option maxRecDepth 100000 in
theorem lc_18 {p : Program} {e : Env} {s : State} {m : MethodId} {below : List Frame} {meth : Method} {c : Code} (l : Launch) {b L : Nat} {xs : Nat → Int32} (hL : L ≤ 2560) (C0 : lw_At p s m meth c b L xs) {dC : Nat → ClassId} {dI : Nat → Nat → Nat} {ad : Nat → Nat} {ca : Nat → ClassId} {bd : Nat → Nat} {cb : Nat → ClassId} {i : Nat} (hi : i + 5 ≤ L) {u : TS} {v : MS} (hR : RR u v) {H : Heap} {locs : List Loc} (hNW : NW s) (hK : va_K (dC, dI) vwCl ([((ca 4), .long), ((ca 5), .long), ((ca 6), .long), ((ca 7), .int), ((ca 8), .long), ((ca 9), .long)] ++ [((cb 1), .long), ((cb 2), .int), ((cb 3), .long), ((cb 4), .boolean), ((cb 5), .int), ((cb 6), .long), ((cb 7), .int)]) s) (hP : va_P (dC, dI) vwCl (WT ad ca u ++ WM bd cb v) H) (hD : va_D (fun q : Nat => s.heap.size ≤ q) (WT ad ca u ++ WM bd cb v)) (hS : va_S (fun q : Nat => s.heap.size ≤ q) s.heap H locs) {ls : Array Slot} (hl : lv_has ls 4 [(0, .ref b), (1, .ref (ad 0)), (2, .ref (bd 0)), (3, .int (nI i))]) (kk : ∀ (u : TS) (v : MS) (H : Heap) (locs : List Loc), RR u v → va_P (dC, dI) vwCl (WT ad ca u ++ WM bd cb v) H → va_D (fun q : Nat => s.heap.size ≤ q) (WT ad ca u ++ WM bd cb v) → va_S (fun q : Nat => s.heap.size ≤ q) s.heap H locs → W p l e room_1 s m #[Value.ref b] below meth c H locs 18 182 (lw_Z below #[Value.ref b] s) (F0 m 1184 ls [])) : W p l e room_1 s m #[Value.ref b] below meth c H locs 18 182 (lw_Z below #[Value.ref b] s) (F0 m 953 ls []) := by
  obtain ⟨hx, hb, hr, hml, hown0, hts0, hX, hbl, hlocks, hgv⟩ := C0
  have hts : ∀ w ∈ wsL_law, w.before #[Value.ref b] s = true := fun w h => hts0 w (wsL_law_in w h)
  have hown : s.vm.findClass RL = some m.cls := hown0
  have hA : ∀ q : Nat, s.heap.size ≤ q → (fun q : Nat => s.heap.size ≤ q) q := fun _ h => h
  have hbA : ¬ (fun q : Nat => s.heap.size ≤ q) b := Nat.not_le.mpr hbl
  refine lv_aload_n hx hb dL_law_953 rfl (lv_at hl 1 rfl) ?_
  refine lv_aload_n hx hb dL_law_954 rfl (lv_at hl 0 rfl) ?_
  refine lv_iload_n hx hb dL_law_955 rfl (lv_at hl 3 rfl) ?_
  refine lv_iconst (v := (1 : Int32)) hx hb dL_law_956 (by decide) ?_
  refine lv_iadd hx hb dL_law_957 ?_
  refine va_sld hx hb hX hbl hbA hS (sc_in hi hL 1 (by decide) (by decide)) dL_law_958 ?_
  refine hc_V (C := RX6) (ci := 2) (T := TX6) (N := 7) (As := [.int (xs (nI i + (1 : Int32)).toNatClampNeg)]) (rest := []) ⟨hx, hb, hml, hown, hts⟩ (ct_X6_mark l dC dI ad ca u (xs (nI i + (1 : Int32)).toNatClampNeg) hR.dH) (cwV 1 hts gL_law_X6_mark rfl rfl rfl (by decide +kernel) ⟨Nat.le_of_ble_eq_true rfl, Nat.le_of_ble_eq_true rfl⟩) (hw_part hP [0, 1, 2, 3, 4, 5, 6, 7, 8, 9] rfl) (hK.sub [0, 1, 2, 3, 4, 5] rfl) hNW rfl rfl rfl hl.1 rfl (Nat.le_of_ble_eq_true rfl) dL_law_959 ⟨Nat.le_of_ble_eq_true rfl, Nat.le_of_ble_eq_true rfl⟩ ?_
  refine lv_aload_n hx hb dL_law_962 rfl (lv_at hl 2 rfl) ?_
  refine lv_aload_n hx hb dL_law_963 rfl (lv_at hl 0 rfl) ?_
  refine lv_iload_n hx hb dL_law_964 rfl (lv_at hl 3 rfl) ?_
  refine lv_iconst (v := (1 : Int32)) hx hb dL_law_965 (by decide) ?_
  refine lv_iadd hx hb dL_law_966 ?_
  refine va_sld hx hb hX hbl hbA hS (sc_in hi hL 1 (by decide) (by decide)) dL_law_967 ?_
  refine hc_V (C := RX7) (ci := 3) (T := TX7) (N := 17) (As := [.int (xs (nI i + (1 : Int32)).toNatClampNeg)]) (rest := [.long (mX6_mark u (xs (nI i + (1 : Int32)).toNatClampNeg))]) ⟨hx, hb, hml, hown, hts⟩ (ct_X7_mark l dC dI bd cb v (xs (nI i + (1 : Int32)).toNatClampNeg) hR.hsy hR.hgr hR.f7 hR.w2) (cwV 1 hts gL_law_X7_mark rfl rfl rfl (by decide +kernel) ⟨Nat.le_of_ble_eq_true rfl, Nat.le_of_ble_eq_true rfl⟩) (hw_part hP [10, 11, 12, 13, 14, 15, 16, 17] rfl) (hK.sub [6, 7, 8, 9, 10, 11, 12] rfl) hNW rfl rfl rfl hl.1 rfl (Nat.le_of_ble_eq_true rfl) dL_law_968 ⟨Nat.le_of_ble_eq_true rfl, Nat.le_of_ble_eq_true rfl⟩ ?_
  refine W.lcmp hx hb dL_law_971 ?_
  refine lv_if_eq (tgt := 1184) hx hb dL_law_972 (by decide) (fun c1 => ?_) (fun c1 => ?_)
  · exact kk u v _ _ hR hP hD hS
  · exact absurd ((lg_cmp_eq _ _).mpr (sim_mark hR (xs (nI i + (1 : Int32)).toNatClampNeg))) c1

set_option maxHeartbeats 4000000 in
set_option maxRecDepth 100000 in
theorem lc_19 {p : Program} {e : Env} {s : State} {m : MethodId} {below : List Frame} {meth : Method} {c : Code} (l : Launch) {b L : Nat} {xs : Nat → Int32} (hL : L ≤ 2560) (C0 : lw_At p s m meth c b L xs) {dC : Nat → ClassId} {dI : Nat → Nat → Nat} {ad : Nat → Nat} {ca : Nat → ClassId} {bd : Nat → Nat} {cb : Nat → ClassId} {i : Nat} (hi : i + 5 ≤ L) {u : TS} {v : MS} (hR : RR u v) {H : Heap} {locs : List Loc} (hNW : NW s) (hK : va_K (dC, dI) vwCl ([((ca 4), .long), ((ca 5), .long), ((ca 6), .long), ((ca 7), .int), ((ca 8), .long), ((ca 9), .long)] ++ [((cb 1), .long), ((cb 2), .int), ((cb 3), .long), ((cb 4), .boolean), ((cb 5), .int), ((cb 6), .long), ((cb 7), .int)]) s) (hP : va_P (dC, dI) vwCl (WT ad ca u ++ WM bd cb v) H) (hD : va_D (fun q : Nat => s.heap.size ≤ q) (WT ad ca u ++ WM bd cb v)) (hS : va_S (fun q : Nat => s.heap.size ≤ q) s.heap H locs) {ls : Array Slot} (hl : lv_has ls 4 [(0, .ref b), (1, .ref (ad 0)), (2, .ref (bd 0)), (3, .int (nI i))]) (kk : ∀ (u : TS) (v : MS) (H : Heap) (locs : List Loc), RR u v → va_P (dC, dI) vwCl (WT ad ca u ++ WM bd cb v) H → va_D (fun q : Nat => s.heap.size ≤ q) (WT ad ca u ++ WM bd cb v) → va_S (fun q : Nat => s.heap.size ≤ q) s.heap H locs → W p l e room_1 s m #[Value.ref b] below meth c H locs 18 182 (lw_Z below #[Value.ref b] s) (F0 m 1184 ls [])) : W p l e room_1 s m #[Value.ref b] below meth c H locs 18 182 (lw_Z below #[Value.ref b] s) (F0 m 977 ls []) := by
  obtain ⟨hx, hb, hr, hml, hown0, hts0, hX, hbl, hlocks, hgv⟩ := C0
  have hts : ∀ w ∈ wsL_law, w.before #[Value.ref b] s = true := fun w h => hts0 w (wsL_law_in w h)
  have hown : s.vm.findClass RL = some m.cls := hown0
  have hA : ∀ q : Nat, s.heap.size ≤ q → (fun q : Nat => s.heap.size ≤ q) q := fun _ h => h
  have hbA : ¬ (fun q : Nat => s.heap.size ≤ q) b := Nat.not_le.mpr hbl
  refine lv_aload_n hx hb dL_law_977 rfl (lv_at hl 1 rfl) ?_
  refine lv_aload_n hx hb dL_law_978 rfl (lv_at hl 0 rfl) ?_
  refine lv_iload_n hx hb dL_law_979 rfl (lv_at hl 3 rfl) ?_
  refine lv_iconst (v := (1 : Int32)) hx hb dL_law_980 (by decide) ?_
  refine lv_iadd hx hb dL_law_981 ?_
  refine va_sld hx hb hX hbl hbA hS (sc_in hi hL 1 (by decide) (by decide)) dL_law_982 ?_
  refine lv_aload_n hx hb dL_law_983 rfl (lv_at hl 0 rfl) ?_
  refine lv_iload_n hx hb dL_law_984 rfl (lv_at hl 3 rfl) ?_
  refine lv_iconst (v := (2 : Int32)) hx hb dL_law_985 (by decide) ?_
  refine lv_iadd hx hb dL_law_986 ?_
  refine va_sld hx hb hX hbl hbA hS (sc_in hi hL 2 (by decide) (by decide)) dL_law_987 ?_
  refine hc_V (C := RX6) (ci := 2) (T := TX6) (N := 7) (As := [.int (xs (nI i + (1 : Int32)).toNatClampNeg), .int (xs (nI i + (2 : Int32)).toNatClampNeg)]) (rest := []) ⟨hx, hb, hml, hown, hts⟩ (ct_X6_gap l dC dI ad ca u (xs (nI i + (1 : Int32)).toNatClampNeg) (xs (nI i + (2 : Int32)).toNatClampNeg) hR.dW) (cwV 2 hts gL_law_X6_gap rfl rfl rfl (by decide +kernel) ⟨Nat.le_of_ble_eq_true rfl, Nat.le_of_ble_eq_true rfl⟩) (hw_part hP [0, 1, 2, 3, 4, 5, 6, 7, 8, 9] rfl) (hK.sub [0, 1, 2, 3, 4, 5] rfl) hNW rfl rfl rfl hl.1 rfl (Nat.le_of_ble_eq_true rfl) dL_law_988 ⟨Nat.le_of_ble_eq_true rfl, Nat.le_of_ble_eq_true rfl⟩ ?_
  refine lv_aload_n hx hb dL_law_991 rfl (lv_at hl 2 rfl) ?_
  refine lv_aload_n hx hb dL_law_992 rfl (lv_at hl 0 rfl) ?_
  refine lv_iload_n hx hb dL_law_993 rfl (lv_at hl 3 rfl) ?_
  refine lv_iconst (v := (1 : Int32)) hx hb dL_law_994 (by decide) ?_
  refine lv_iadd hx hb dL_law_995 ?_
  refine va_sld hx hb hX hbl hbA hS (sc_in hi hL 1 (by decide) (by decide)) dL_law_996 ?_
  refine lv_aload_n hx hb dL_law_997 rfl (lv_at hl 0 rfl) ?_
  refine lv_iload_n hx hb dL_law_998 rfl (lv_at hl 3 rfl) ?_
  refine lv_iconst (v := (2 : Int32)) hx hb dL_law_999 (by decide) ?_
  refine lv_iadd hx hb dL_law_1000 ?_
  refine va_sld hx hb hX hbl hbA hS (sc_in hi hL 2 (by decide) (by decide)) dL_law_1001 ?_
  refine hc_V (C := RX7) (ci := 3) (T := TX7) (N := 17) (As := [.int (xs (nI i + (1 : Int32)).toNatClampNeg), .int (xs (nI i + (2 : Int32)).toNatClampNeg)]) (rest := [.int (mX6_gap u (xs (nI i + (1 : Int32)).toNatClampNeg) (xs (nI i + (2 : Int32)).toNatClampNeg))]) ⟨hx, hb, hml, hown, hts⟩ (ct_X7_gap l dC dI bd cb v (xs (nI i + (1 : Int32)).toNatClampNeg) (xs (nI i + (2 : Int32)).toNatClampNeg) hR.hsx hR.hst hR.d7 hR.w0) (cwV 2 hts gL_law_X7_gap rfl rfl rfl (by decide +kernel) ⟨Nat.le_of_ble_eq_true rfl, Nat.le_of_ble_eq_true rfl⟩) (hw_part hP [10, 11, 12, 13, 14, 15, 16, 17] rfl) (hK.sub [6, 7, 8, 9, 10, 11, 12] rfl) hNW rfl rfl rfl hl.1 rfl (Nat.le_of_ble_eq_true rfl) dL_law_1002 ⟨Nat.le_of_ble_eq_true rfl, Nat.le_of_ble_eq_true rfl⟩ ?_
  refine lv_icmp_eq (tgt := 1184) hx hb dL_law_1005 (by decide) (fun c1 => ?_) (fun c1 => ?_)
  · exact kk u v _ _ hR hP hD hS
  · exact absurd (sim_gap hR (xs (nI i + (1 : Int32)).toNatClampNeg) (xs (nI i + (2 : Int32)).toNatClampNeg)) c1

set_option maxHeartbeats 4000000 in
set_option maxRecDepth 100000 in
theorem lc_20 {p : Program} {e : Env} {s : State} {m : MethodId} {below : List Frame} {meth : Method} {c : Code} (l : Launch) {b L : Nat} {xs : Nat → Int32} (hL : L ≤ 2560) (C0 : lw_At p s m meth c b L xs) {dC : Nat → ClassId} {dI : Nat → Nat → Nat} {ad : Nat → Nat} {ca : Nat → ClassId} {bd : Nat → Nat} {cb : Nat → ClassId} {i : Nat} (hi : i + 5 ≤ L) {u : TS} {v : MS} (hR : RR u v) {H : Heap} {locs : List Loc} (hNW : NW s) (hK : va_K (dC, dI) vwCl ([((ca 4), .long), ((ca 5), .long), ((ca 6), .long), ((ca 7), .int), ((ca 8), .long), ((ca 9), .long)] ++ [((cb 1), .long), ((cb 2), .int), ((cb 3), .long), ((cb 4), .boolean), ((cb 5), .int), ((cb 6), .long), ((cb 7), .int)]) s) (hP : va_P (dC, dI) vwCl (WT ad ca u ++ WM bd cb v) H) (hD : va_D (fun q : Nat => s.heap.size ≤ q) (WT ad ca u ++ WM bd cb v)) (hS : va_S (fun q : Nat => s.heap.size ≤ q) s.heap H locs) {ls : Array Slot} (hl : lv_has ls 4 [(0, .ref b), (1, .ref (ad 0)), (2, .ref (bd 0)), (3, .int (nI i))]) (kk : ∀ (u : TS) (v : MS) (H : Heap) (locs : List Loc), RR u v → va_P (dC, dI) vwCl (WT ad ca u ++ WM bd cb v) H → va_D (fun q : Nat => s.heap.size ≤ q) (WT ad ca u ++ WM bd cb v) → va_S (fun q : Nat => s.heap.size ≤ q) s.heap H locs → W p l e room_1 s m #[Value.ref b] below meth c H locs 18 182 (lw_Z below #[Value.ref b] s) (F0 m 1184 ls [])) : W p l e room_1 s m #[Value.ref b] below meth c H locs 18 182 (lw_Z below #[Value.ref b] s) (F0 m 1010 ls []) := by
  obtain ⟨hx, hb, hr, hml, hown0, hts0, hX, hbl, hlocks, hgv⟩ := C0
  have hts : ∀ w ∈ wsL_law, w.before #[Value.ref b] s = true := fun w h => hts0 w (wsL_law_in w h)
  have hown : s.vm.findClass RL = some m.cls := hown0
  have hA : ∀ q : Nat, s.heap.size ≤ q → (fun q : Nat => s.heap.size ≤ q) q := fun _ h => h
  have hbA : ¬ (fun q : Nat => s.heap.size ≤ q) b := Nat.not_le.mpr hbl
  refine lv_aload_n hx hb dL_law_1010 rfl (lv_at hl 1 rfl) ?_
  refine lv_aload_n hx hb dL_law_1011 rfl (lv_at hl 0 rfl) ?_
  refine lv_iload_n hx hb dL_law_1012 rfl (lv_at hl 3 rfl) ?_
  refine lv_iconst (v := (1 : Int32)) hx hb dL_law_1013 (by decide) ?_
  refine lv_iadd hx hb dL_law_1014 ?_
  refine va_sld hx hb hX hbl hbA hS (sc_in hi hL 1 (by decide) (by decide)) dL_law_1015 ?_
  refine lv_aload_n hx hb dL_law_1016 rfl (lv_at hl 0 rfl) ?_
  refine lv_iload_n hx hb dL_law_1017 rfl (lv_at hl 3 rfl) ?_
  refine lv_iconst (v := (2 : Int32)) hx hb dL_law_1018 (by decide) ?_
  refine lv_iadd hx hb dL_law_1019 ?_
  refine va_sld hx hb hX hbl hbA hS (sc_in hi hL 2 (by decide) (by decide)) dL_law_1020 ?_
  refine hc_V (C := RX6) (ci := 2) (T := TX6) (N := 7) (As := [.int (xs (nI i + (1 : Int32)).toNatClampNeg), .int (xs (nI i + (2 : Int32)).toNatClampNeg)]) (rest := []) ⟨hx, hb, hml, hown, hts⟩ (ct_X6_rise l dC dI ad ca u (xs (nI i + (1 : Int32)).toNatClampNeg) (xs (nI i + (2 : Int32)).toNatClampNeg) hR.dH) (cwV 2 hts gL_law_X6_rise rfl rfl rfl (by decide +kernel) ⟨Nat.le_of_ble_eq_true rfl, Nat.le_of_ble_eq_true rfl⟩) (hw_part hP [0, 1, 2, 3, 4, 5, 6, 7, 8, 9] rfl) (hK.sub [0, 1, 2, 3, 4, 5] rfl) hNW rfl rfl rfl hl.1 rfl (Nat.le_of_ble_eq_true rfl) dL_law_1021 ⟨Nat.le_of_ble_eq_true rfl, Nat.le_of_ble_eq_true rfl⟩ ?_
  refine lv_aload_n hx hb dL_law_1024 rfl (lv_at hl 2 rfl) ?_
  refine lv_aload_n hx hb dL_law_1025 rfl (lv_at hl 0 rfl) ?_
  refine lv_iload_n hx hb dL_law_1026 rfl (lv_at hl 3 rfl) ?_
  refine lv_iconst (v := (1 : Int32)) hx hb dL_law_1027 (by decide) ?_
  refine lv_iadd hx hb dL_law_1028 ?_
  refine va_sld hx hb hX hbl hbA hS (sc_in hi hL 1 (by decide) (by decide)) dL_law_1029 ?_
  refine lv_aload_n hx hb dL_law_1030 rfl (lv_at hl 0 rfl) ?_
  refine lv_iload_n hx hb dL_law_1031 rfl (lv_at hl 3 rfl) ?_
  refine lv_iconst (v := (2 : Int32)) hx hb dL_law_1032 (by decide) ?_
  refine lv_iadd hx hb dL_law_1033 ?_
  refine va_sld hx hb hX hbl hbA hS (sc_in hi hL 2 (by decide) (by decide)) dL_law_1034 ?_
  refine hc_V (C := RX7) (ci := 3) (T := TX7) (N := 17) (As := [.int (xs (nI i + (1 : Int32)).toNatClampNeg), .int (xs (nI i + (2 : Int32)).toNatClampNeg)]) (rest := [.long (mX6_rise u (xs (nI i + (1 : Int32)).toNatClampNeg) (xs (nI i + (2 : Int32)).toNatClampNeg))]) ⟨hx, hb, hml, hown, hts⟩ (ct_X7_rise l dC dI bd cb v (xs (nI i + (1 : Int32)).toNatClampNeg) (xs (nI i + (2 : Int32)).toNatClampNeg) hR.hsy hR.hgr hR.f7 hR.w2) (cwV 2 hts gL_law_X7_rise rfl rfl rfl (by decide +kernel) ⟨Nat.le_of_ble_eq_true rfl, Nat.le_of_ble_eq_true rfl⟩) (hw_part hP [10, 11, 12, 13, 14, 15, 16, 17] rfl) (hK.sub [6, 7, 8, 9, 10, 11, 12] rfl) hNW rfl rfl rfl hl.1 rfl (Nat.le_of_ble_eq_true rfl) dL_law_1035 ⟨Nat.le_of_ble_eq_true rfl, Nat.le_of_ble_eq_true rfl⟩ ?_
  refine W.lcmp hx hb dL_law_1038 ?_
  refine lv_if_eq (tgt := 1184) hx hb dL_law_1039 (by decide) (fun c1 => ?_) (fun c1 => ?_)
  · exact kk u v _ _ hR hP hD hS
  · exact absurd ((lg_cmp_eq _ _).mpr (sim_rise hR (xs (nI i + (1 : Int32)).toNatClampNeg) (xs (nI i + (2 : Int32)).toNatClampNeg))) c1

set_option maxHeartbeats 4000000 in
set_option maxRecDepth 100000 in
theorem lc_21 {p : Program} {e : Env} {s : State} {m : MethodId} {below : List Frame} {meth : Method} {c : Code} (l : Launch) {b L : Nat} {xs : Nat → Int32} (hL : L ≤ 2560) (C0 : lw_At p s m meth c b L xs) {dC : Nat → ClassId} {dI : Nat → Nat → Nat} {ad : Nat → Nat} {ca : Nat → ClassId} {bd : Nat → Nat} {cb : Nat → ClassId} {i : Nat} (hi : i + 5 ≤ L) {u : TS} {v : MS} (hR : RR u v) {H : Heap} {locs : List Loc} (hNW : NW s) (hK : va_K (dC, dI) vwCl ([((ca 4), .long), ((ca 5), .long), ((ca 6), .long), ((ca 7), .int), ((ca 8), .long), ((ca 9), .long)] ++ [((cb 1), .long), ((cb 2), .int), ((cb 3), .long), ((cb 4), .boolean), ((cb 5), .int), ((cb 6), .long), ((cb 7), .int)]) s) (hP : va_P (dC, dI) vwCl (WT ad ca u ++ WM bd cb v) H) (hD : va_D (fun q : Nat => s.heap.size ≤ q) (WT ad ca u ++ WM bd cb v)) (hS : va_S (fun q : Nat => s.heap.size ≤ q) s.heap H locs) {ls : Array Slot} (hl : lv_has ls 4 [(0, .ref b), (1, .ref (ad 0)), (2, .ref (bd 0)), (3, .int (nI i))]) (kk : ∀ (u : TS) (v : MS) (H : Heap) (locs : List Loc), RR u v → va_P (dC, dI) vwCl (WT ad ca u ++ WM bd cb v) H → va_D (fun q : Nat => s.heap.size ≤ q) (WT ad ca u ++ WM bd cb v) → va_S (fun q : Nat => s.heap.size ≤ q) s.heap H locs → W p l e room_1 s m #[Value.ref b] below meth c H locs 18 182 (lw_Z below #[Value.ref b] s) (F0 m 1184 ls [])) : W p l e room_1 s m #[Value.ref b] below meth c H locs 18 182 (lw_Z below #[Value.ref b] s) (F0 m 1044 ls []) := by
  obtain ⟨hx, hb, hr, hml, hown0, hts0, hX, hbl, hlocks, hgv⟩ := C0
  have hts : ∀ w ∈ wsL_law, w.before #[Value.ref b] s = true := fun w h => hts0 w (wsL_law_in w h)
  have hown : s.vm.findClass RL = some m.cls := hown0
  have hA : ∀ q : Nat, s.heap.size ≤ q → (fun q : Nat => s.heap.size ≤ q) q := fun _ h => h
  have hbA : ¬ (fun q : Nat => s.heap.size ≤ q) b := Nat.not_le.mpr hbl
  refine lv_aload_n hx hb dL_law_1044 rfl (lv_at hl 1 rfl) ?_
  refine lv_aload_n hx hb dL_law_1045 rfl (lv_at hl 0 rfl) ?_
  refine lv_iload_n hx hb dL_law_1046 rfl (lv_at hl 3 rfl) ?_
  refine lv_iconst (v := (1 : Int32)) hx hb dL_law_1047 (by decide) ?_
  refine lv_iadd hx hb dL_law_1048 ?_
  refine va_sld hx hb hX hbl hbA hS (sc_in hi hL 1 (by decide) (by decide)) dL_law_1049 ?_
  refine hc_V (C := RX6) (ci := 2) (T := TX6) (N := 7) (As := [.int (xs (nI i + (1 : Int32)).toNatClampNeg)]) (rest := []) ⟨hx, hb, hml, hown, hts⟩ (ct_X6_edge l dC dI ad ca u (xs (nI i + (1 : Int32)).toNatClampNeg) ) (cwV 1 hts gL_law_X6_edge rfl rfl rfl (by decide +kernel) ⟨Nat.le_of_ble_eq_true rfl, Nat.le_of_ble_eq_true rfl⟩) (hw_part hP [0, 1, 2, 3, 4, 5, 6, 7, 8, 9] rfl) (hK.sub [0, 1, 2, 3, 4, 5] rfl) hNW rfl rfl rfl hl.1 rfl (Nat.le_of_ble_eq_true rfl) dL_law_1050 ⟨Nat.le_of_ble_eq_true rfl, Nat.le_of_ble_eq_true rfl⟩ ?_
  refine lv_aload_n hx hb dL_law_1053 rfl (lv_at hl 2 rfl) ?_
  refine lv_aload_n hx hb dL_law_1054 rfl (lv_at hl 0 rfl) ?_
  refine lv_iload_n hx hb dL_law_1055 rfl (lv_at hl 3 rfl) ?_
  refine lv_iconst (v := (1 : Int32)) hx hb dL_law_1056 (by decide) ?_
  refine lv_iadd hx hb dL_law_1057 ?_
  refine va_sld hx hb hX hbl hbA hS (sc_in hi hL 1 (by decide) (by decide)) dL_law_1058 ?_
  refine hc_V (C := RX7) (ci := 3) (T := TX7) (N := 17) (As := [.int (xs (nI i + (1 : Int32)).toNatClampNeg)]) (rest := [.long (mX6_edge u (xs (nI i + (1 : Int32)).toNatClampNeg))]) ⟨hx, hb, hml, hown, hts⟩ (ct_X7_edge l dC dI bd cb v (xs (nI i + (1 : Int32)).toNatClampNeg) ) (cwV 1 hts gL_law_X7_edge rfl rfl rfl (by decide +kernel) ⟨Nat.le_of_ble_eq_true rfl, Nat.le_of_ble_eq_true rfl⟩) (hw_part hP [10, 11, 12, 13, 14, 15, 16, 17] rfl) (hK.sub [6, 7, 8, 9, 10, 11, 12] rfl) hNW rfl rfl rfl hl.1 rfl (Nat.le_of_ble_eq_true rfl) dL_law_1059 ⟨Nat.le_of_ble_eq_true rfl, Nat.le_of_ble_eq_true rfl⟩ ?_
  refine W.lcmp hx hb dL_law_1062 ?_
  refine lv_if_eq (tgt := 1184) hx hb dL_law_1063 (by decide) (fun c1 => ?_) (fun c1 => ?_)
  · exact kk u v _ _ hR hP hD hS
  · exact absurd ((lg_cmp_eq _ _).mpr (sim_edge hR (xs (nI i + (1 : Int32)).toNatClampNeg))) c1

set_option maxHeartbeats 4000000 in
set_option maxRecDepth 100000 in
theorem lc_22 {p : Program} {e : Env} {s : State} {m : MethodId} {below : List Frame} {meth : Method} {c : Code} (l : Launch) {b L : Nat} {xs : Nat → Int32} (hL : L ≤ 2560) (C0 : lw_At p s m meth c b L xs) {dC : Nat → ClassId} {dI : Nat → Nat → Nat} {ad : Nat → Nat} {ca : Nat → ClassId} {bd : Nat → Nat} {cb : Nat → ClassId} {i : Nat} (hi : i + 5 ≤ L) {u : TS} {v : MS} (hR : RR u v) {H : Heap} {locs : List Loc} (hNW : NW s) (hK : va_K (dC, dI) vwCl ([((ca 4), .long), ((ca 5), .long), ((ca 6), .long), ((ca 7), .int), ((ca 8), .long), ((ca 9), .long)] ++ [((cb 1), .long), ((cb 2), .int), ((cb 3), .long), ((cb 4), .boolean), ((cb 5), .int), ((cb 6), .long), ((cb 7), .int)]) s) (hP : va_P (dC, dI) vwCl (WT ad ca u ++ WM bd cb v) H) (hD : va_D (fun q : Nat => s.heap.size ≤ q) (WT ad ca u ++ WM bd cb v)) (hS : va_S (fun q : Nat => s.heap.size ≤ q) s.heap H locs) {ls : Array Slot} (hl : lv_has ls 4 [(0, .ref b), (1, .ref (ad 0)), (2, .ref (bd 0)), (3, .int (nI i))]) (kk : ∀ (u : TS) (v : MS) (H : Heap) (locs : List Loc), RR u v → va_P (dC, dI) vwCl (WT ad ca u ++ WM bd cb v) H → va_D (fun q : Nat => s.heap.size ≤ q) (WT ad ca u ++ WM bd cb v) → va_S (fun q : Nat => s.heap.size ≤ q) s.heap H locs → W p l e room_1 s m #[Value.ref b] below meth c H locs 18 182 (lw_Z below #[Value.ref b] s) (F0 m 1184 ls [])) : W p l e room_1 s m #[Value.ref b] below meth c H locs 18 182 (lw_Z below #[Value.ref b] s) (F0 m 1068 ls []) := by
  obtain ⟨hx, hb, hr, hml, hown0, hts0, hX, hbl, hlocks, hgv⟩ := C0
  have hts : ∀ w ∈ wsL_law, w.before #[Value.ref b] s = true := fun w h => hts0 w (wsL_law_in w h)
  have hown : s.vm.findClass RL = some m.cls := hown0
  have hA : ∀ q : Nat, s.heap.size ≤ q → (fun q : Nat => s.heap.size ≤ q) q := fun _ h => h
  have hbA : ¬ (fun q : Nat => s.heap.size ≤ q) b := Nat.not_le.mpr hbl
  refine lv_aload_n hx hb dL_law_1068 rfl (lv_at hl 1 rfl) ?_
  refine lv_aload_n hx hb dL_law_1069 rfl (lv_at hl 0 rfl) ?_
  refine lv_iload_n hx hb dL_law_1070 rfl (lv_at hl 3 rfl) ?_
  refine lv_iconst (v := (1 : Int32)) hx hb dL_law_1071 (by decide) ?_
  refine lv_iadd hx hb dL_law_1072 ?_
  refine va_sld hx hb hX hbl hbA hS (sc_in hi hL 1 (by decide) (by decide)) dL_law_1073 ?_
  refine hc_V (C := RX6) (ci := 2) (T := TX6) (N := 7) (As := [.int (xs (nI i + (1 : Int32)).toNatClampNeg)]) (rest := []) ⟨hx, hb, hml, hown, hts⟩ (ct_X6_rim l dC dI ad ca u (xs (nI i + (1 : Int32)).toNatClampNeg) ) (cwV 1 hts gL_law_X6_rim rfl rfl rfl (by decide +kernel) ⟨Nat.le_of_ble_eq_true rfl, Nat.le_of_ble_eq_true rfl⟩) (hw_part hP [0, 1, 2, 3, 4, 5, 6, 7, 8, 9] rfl) (hK.sub [0, 1, 2, 3, 4, 5] rfl) hNW rfl rfl rfl hl.1 rfl (Nat.le_of_ble_eq_true rfl) dL_law_1074 ⟨Nat.le_of_ble_eq_true rfl, Nat.le_of_ble_eq_true rfl⟩ ?_
  refine lv_aload_n hx hb dL_law_1077 rfl (lv_at hl 2 rfl) ?_
  refine lv_aload_n hx hb dL_law_1078 rfl (lv_at hl 0 rfl) ?_
  refine lv_iload_n hx hb dL_law_1079 rfl (lv_at hl 3 rfl) ?_
  refine lv_iconst (v := (1 : Int32)) hx hb dL_law_1080 (by decide) ?_
  refine lv_iadd hx hb dL_law_1081 ?_
  refine va_sld hx hb hX hbl hbA hS (sc_in hi hL 1 (by decide) (by decide)) dL_law_1082 ?_
  refine hc_V (C := RX7) (ci := 3) (T := TX7) (N := 17) (As := [.int (xs (nI i + (1 : Int32)).toNatClampNeg)]) (rest := [.int (mX6_rim u (xs (nI i + (1 : Int32)).toNatClampNeg))]) ⟨hx, hb, hml, hown, hts⟩ (ct_X7_rim l dC dI bd cb v (xs (nI i + (1 : Int32)).toNatClampNeg) ) (cwV 1 hts gL_law_X7_rim rfl rfl rfl (by decide +kernel) ⟨Nat.le_of_ble_eq_true rfl, Nat.le_of_ble_eq_true rfl⟩) (hw_part hP [10, 11, 12, 13, 14, 15, 16, 17] rfl) (hK.sub [6, 7, 8, 9, 10, 11, 12] rfl) hNW rfl rfl rfl hl.1 rfl (Nat.le_of_ble_eq_true rfl) dL_law_1083 ⟨Nat.le_of_ble_eq_true rfl, Nat.le_of_ble_eq_true rfl⟩ ?_
  refine lv_icmp_eq (tgt := 1184) hx hb dL_law_1086 (by decide) (fun c1 => ?_) (fun c1 => ?_)
  · exact kk u v _ _ hR hP hD hS
  · exact absurd (sim_rim hR (xs (nI i + (1 : Int32)).toNatClampNeg)) c1

set_option maxHeartbeats 4000000 in
set_option maxRecDepth 100000 in
theorem lc_23 {p : Program} {e : Env} {s : State} {m : MethodId} {below : List Frame} {meth : Method} {c : Code} (l : Launch) {b L : Nat} {xs : Nat → Int32} (hL : L ≤ 2560) (C0 : lw_At p s m meth c b L xs) {dC : Nat → ClassId} {dI : Nat → Nat → Nat} {ad : Nat → Nat} {ca : Nat → ClassId} {bd : Nat → Nat} {cb : Nat → ClassId} {i : Nat} (hi : i + 5 ≤ L) {u : TS} {v : MS} (hR : RR u v) {H : Heap} {locs : List Loc} (hNW : NW s) (hK : va_K (dC, dI) vwCl ([((ca 4), .long), ((ca 5), .long), ((ca 6), .long), ((ca 7), .int), ((ca 8), .long), ((ca 9), .long)] ++ [((cb 1), .long), ((cb 2), .int), ((cb 3), .long), ((cb 4), .boolean), ((cb 5), .int), ((cb 6), .long), ((cb 7), .int)]) s) (hP : va_P (dC, dI) vwCl (WT ad ca u ++ WM bd cb v) H) (hD : va_D (fun q : Nat => s.heap.size ≤ q) (WT ad ca u ++ WM bd cb v)) (hS : va_S (fun q : Nat => s.heap.size ≤ q) s.heap H locs) {ls : Array Slot} (hl : lv_has ls 4 [(0, .ref b), (1, .ref (ad 0)), (2, .ref (bd 0)), (3, .int (nI i))]) (kk : ∀ (u : TS) (v : MS) (H : Heap) (locs : List Loc), RR u v → va_P (dC, dI) vwCl (WT ad ca u ++ WM bd cb v) H → va_D (fun q : Nat => s.heap.size ≤ q) (WT ad ca u ++ WM bd cb v) → va_S (fun q : Nat => s.heap.size ≤ q) s.heap H locs → W p l e room_1 s m #[Value.ref b] below meth c H locs 18 182 (lw_Z below #[Value.ref b] s) (F0 m 1184 ls [])) : W p l e room_1 s m #[Value.ref b] below meth c H locs 18 182 (lw_Z below #[Value.ref b] s) (F0 m 1091 ls []) := by
  obtain ⟨hx, hb, hr, hml, hown0, hts0, hX, hbl, hlocks, hgv⟩ := C0
  have hts : ∀ w ∈ wsL_law, w.before #[Value.ref b] s = true := fun w h => hts0 w (wsL_law_in w h)
  have hown : s.vm.findClass RL = some m.cls := hown0
  have hA : ∀ q : Nat, s.heap.size ≤ q → (fun q : Nat => s.heap.size ≤ q) q := fun _ h => h
  have hbA : ¬ (fun q : Nat => s.heap.size ≤ q) b := Nat.not_le.mpr hbl
  refine lv_aload_n hx hb dL_law_1091 rfl (lv_at hl 1 rfl) ?_
  refine lv_aload_n hx hb dL_law_1092 rfl (lv_at hl 0 rfl) ?_
  refine lv_iload_n hx hb dL_law_1093 rfl (lv_at hl 3 rfl) ?_
  refine lv_iconst (v := (1 : Int32)) hx hb dL_law_1094 (by decide) ?_
  refine lv_iadd hx hb dL_law_1095 ?_
  refine va_sld hx hb hX hbl hbA hS (sc_in hi hL 1 (by decide) (by decide)) dL_law_1096 ?_
  refine hc_V (C := RX6) (ci := 2) (T := TX6) (N := 7) (As := [.int (xs (nI i + (1 : Int32)).toNatClampNeg)]) (rest := []) ⟨hx, hb, hml, hown, hts⟩ (ct_X6_neighbour l dC dI ad ca u (xs (nI i + (1 : Int32)).toNatClampNeg) hR.fW6 hR.fH6) (cwV 1 hts gL_law_X6_neighbour rfl rfl rfl (by decide +kernel) ⟨Nat.le_of_ble_eq_true rfl, Nat.le_of_ble_eq_true rfl⟩) (hw_part hP [0, 1, 2, 3, 4, 5, 6, 7, 8, 9] rfl) (hK.sub [0, 1, 2, 3, 4, 5] rfl) hNW rfl rfl rfl hl.1 rfl (Nat.le_of_ble_eq_true rfl) dL_law_1097 ⟨Nat.le_of_ble_eq_true rfl, Nat.le_of_ble_eq_true rfl⟩ ?_
  refine lv_aload_n hx hb dL_law_1100 rfl (lv_at hl 2 rfl) ?_
  refine lv_aload_n hx hb dL_law_1101 rfl (lv_at hl 0 rfl) ?_
  refine lv_iload_n hx hb dL_law_1102 rfl (lv_at hl 3 rfl) ?_
  refine lv_iconst (v := (1 : Int32)) hx hb dL_law_1103 (by decide) ?_
  refine lv_iadd hx hb dL_law_1104 ?_
  refine va_sld hx hb hX hbl hbA hS (sc_in hi hL 1 (by decide) (by decide)) dL_law_1105 ?_
  refine hc_V (C := RX7) (ci := 3) (T := TX7) (N := 17) (As := [.int (xs (nI i + (1 : Int32)).toNatClampNeg)]) (rest := [.int (mX6_neighbour u (xs (nI i + (1 : Int32)).toNatClampNeg))]) ⟨hx, hb, hml, hown, hts⟩ (ct_X7_neighbour l dC dI bd cb v (xs (nI i + (1 : Int32)).toNatClampNeg) hR.hsx hR.hsy hR.fd7 hR.ff7 hR.fb7 hR.fn7) (cwV 1 hts gL_law_X7_neighbour rfl rfl rfl (by decide +kernel) ⟨Nat.le_of_ble_eq_true rfl, Nat.le_of_ble_eq_true rfl⟩) (hw_part hP [10, 11, 12, 13, 14, 15, 16, 17] rfl) (hK.sub [6, 7, 8, 9, 10, 11, 12] rfl) hNW rfl rfl rfl hl.1 rfl (Nat.le_of_ble_eq_true rfl) dL_law_1106 ⟨Nat.le_of_ble_eq_true rfl, Nat.le_of_ble_eq_true rfl⟩ ?_
  refine lv_icmp_eq (tgt := 1184) hx hb dL_law_1109 (by decide) (fun c1 => ?_) (fun c1 => ?_)
  · exact kk u v _ _ hR hP hD hS
  · exact absurd (sim_neighbour hR (xs (nI i + (1 : Int32)).toNatClampNeg)) c1

set_option maxHeartbeats 4000000 in
set_option maxRecDepth 100000 in
theorem lc_24 {p : Program} {e : Env} {s : State} {m : MethodId} {below : List Frame} {meth : Method} {c : Code} (l : Launch) {b L : Nat} {xs : Nat → Int32} (hL : L ≤ 2560) (C0 : lw_At p s m meth c b L xs) {dC : Nat → ClassId} {dI : Nat → Nat → Nat} {ad : Nat → Nat} {ca : Nat → ClassId} {bd : Nat → Nat} {cb : Nat → ClassId} {i : Nat} (hi : i + 5 ≤ L) {u : TS} {v : MS} (hR : RR u v) {H : Heap} {locs : List Loc} (hNW : NW s) (hK : va_K (dC, dI) vwCl ([((ca 4), .long), ((ca 5), .long), ((ca 6), .long), ((ca 7), .int), ((ca 8), .long), ((ca 9), .long)] ++ [((cb 1), .long), ((cb 2), .int), ((cb 3), .long), ((cb 4), .boolean), ((cb 5), .int), ((cb 6), .long), ((cb 7), .int)]) s) (hP : va_P (dC, dI) vwCl (WT ad ca u ++ WM bd cb v) H) (hD : va_D (fun q : Nat => s.heap.size ≤ q) (WT ad ca u ++ WM bd cb v)) (hS : va_S (fun q : Nat => s.heap.size ≤ q) s.heap H locs) {ls : Array Slot} (hl : lv_has ls 4 [(0, .ref b), (1, .ref (ad 0)), (2, .ref (bd 0)), (3, .int (nI i))]) (kk : ∀ (u : TS) (v : MS) (H : Heap) (locs : List Loc), RR u v → va_P (dC, dI) vwCl (WT ad ca u ++ WM bd cb v) H → va_D (fun q : Nat => s.heap.size ≤ q) (WT ad ca u ++ WM bd cb v) → va_S (fun q : Nat => s.heap.size ≤ q) s.heap H locs → W p l e room_1 s m #[Value.ref b] below meth c H locs 18 182 (lw_Z below #[Value.ref b] s) (F0 m 1184 ls [])) : W p l e room_1 s m #[Value.ref b] below meth c H locs 18 182 (lw_Z below #[Value.ref b] s) (F0 m 1114 ls []) := by
  obtain ⟨hx, hb, hr, hml, hown0, hts0, hX, hbl, hlocks, hgv⟩ := C0
  have hts : ∀ w ∈ wsL_law, w.before #[Value.ref b] s = true := fun w h => hts0 w (wsL_law_in w h)
  have hown : s.vm.findClass RL = some m.cls := hown0
  have hA : ∀ q : Nat, s.heap.size ≤ q → (fun q : Nat => s.heap.size ≤ q) q := fun _ h => h
  have hbA : ¬ (fun q : Nat => s.heap.size ≤ q) b := Nat.not_le.mpr hbl
  refine lv_aload_n hx hb dL_law_1114 rfl (lv_at hl 1 rfl) ?_
  refine lv_aload_n hx hb dL_law_1115 rfl (lv_at hl 0 rfl) ?_
  refine lv_iload_n hx hb dL_law_1116 rfl (lv_at hl 3 rfl) ?_
  refine lv_iconst (v := (1 : Int32)) hx hb dL_law_1117 (by decide) ?_
  refine lv_iadd hx hb dL_law_1118 ?_
  refine va_sld hx hb hX hbl hbA hS (sc_in hi hL 1 (by decide) (by decide)) dL_law_1119 ?_
  refine hc_V (C := RX6) (ci := 2) (T := TX6) (N := 7) (As := [.int (xs (nI i + (1 : Int32)).toNatClampNeg)]) (rest := []) ⟨hx, hb, hml, hown, hts⟩ (ct_X6_column l dC dI ad ca u (xs (nI i + (1 : Int32)).toNatClampNeg) (hR.co6 (xs (nI i + (1 : Int32)).toNatClampNeg))) (cwV 1 hts gL_law_X6_column rfl rfl rfl (by decide +kernel) ⟨Nat.le_of_ble_eq_true rfl, Nat.le_of_ble_eq_true rfl⟩) (hw_part hP [0, 1, 2, 3, 4, 5, 6, 7, 8, 9] rfl) (hK.sub [0, 1, 2, 3, 4, 5] rfl) hNW rfl rfl rfl hl.1 rfl (Nat.le_of_ble_eq_true rfl) dL_law_1120 ⟨Nat.le_of_ble_eq_true rfl, Nat.le_of_ble_eq_true rfl⟩ ?_
  refine lv_aload_n hx hb dL_law_1123 rfl (lv_at hl 2 rfl) ?_
  refine lv_aload_n hx hb dL_law_1124 rfl (lv_at hl 0 rfl) ?_
  refine lv_iload_n hx hb dL_law_1125 rfl (lv_at hl 3 rfl) ?_
  refine lv_iconst (v := (1 : Int32)) hx hb dL_law_1126 (by decide) ?_
  refine lv_iadd hx hb dL_law_1127 ?_
  refine va_sld hx hb hX hbl hbA hS (sc_in hi hL 1 (by decide) (by decide)) dL_law_1128 ?_
  refine hc_V (C := RX7) (ci := 3) (T := TX7) (N := 17) (As := [.int (xs (nI i + (1 : Int32)).toNatClampNeg)]) (rest := [.int (mX6_column u (xs (nI i + (1 : Int32)).toNatClampNeg))]) ⟨hx, hb, hml, hown, hts⟩ (ct_X7_column l dC dI bd cb v (xs (nI i + (1 : Int32)).toNatClampNeg) hR.hsx hR.hst hR.d7 hR.w0) (cwV 1 hts gL_law_X7_column rfl rfl rfl (by decide +kernel) ⟨Nat.le_of_ble_eq_true rfl, Nat.le_of_ble_eq_true rfl⟩) (hw_part hP [10, 11, 12, 13, 14, 15, 16, 17] rfl) (hK.sub [6, 7, 8, 9, 10, 11, 12] rfl) hNW rfl rfl rfl hl.1 rfl (Nat.le_of_ble_eq_true rfl) dL_law_1129 ⟨Nat.le_of_ble_eq_true rfl, Nat.le_of_ble_eq_true rfl⟩ ?_
  refine lv_icmp_eq (tgt := 1184) hx hb dL_law_1132 (by decide) (fun c1 => ?_) (fun c1 => ?_)
  · exact kk u v _ _ hR hP hD hS
  · exact absurd (sim_column hR (xs (nI i + (1 : Int32)).toNatClampNeg)) c1

set_option maxHeartbeats 4000000 in
set_option maxRecDepth 100000 in
theorem lc_25 {p : Program} {e : Env} {s : State} {m : MethodId} {below : List Frame} {meth : Method} {c : Code} (l : Launch) {b L : Nat} {xs : Nat → Int32} (hL : L ≤ 2560) (C0 : lw_At p s m meth c b L xs) {dC : Nat → ClassId} {dI : Nat → Nat → Nat} {ad : Nat → Nat} {ca : Nat → ClassId} {bd : Nat → Nat} {cb : Nat → ClassId} {i : Nat} (hi : i + 5 ≤ L) {u : TS} {v : MS} (hR : RR u v) {H : Heap} {locs : List Loc} (hNW : NW s) (hK : va_K (dC, dI) vwCl ([((ca 4), .long), ((ca 5), .long), ((ca 6), .long), ((ca 7), .int), ((ca 8), .long), ((ca 9), .long)] ++ [((cb 1), .long), ((cb 2), .int), ((cb 3), .long), ((cb 4), .boolean), ((cb 5), .int), ((cb 6), .long), ((cb 7), .int)]) s) (hP : va_P (dC, dI) vwCl (WT ad ca u ++ WM bd cb v) H) (hD : va_D (fun q : Nat => s.heap.size ≤ q) (WT ad ca u ++ WM bd cb v)) (hS : va_S (fun q : Nat => s.heap.size ≤ q) s.heap H locs) {ls : Array Slot} (hl : lv_has ls 4 [(0, .ref b), (1, .ref (ad 0)), (2, .ref (bd 0)), (3, .int (nI i))]) (kk : ∀ (u : TS) (v : MS) (H : Heap) (locs : List Loc), RR u v → va_P (dC, dI) vwCl (WT ad ca u ++ WM bd cb v) H → va_D (fun q : Nat => s.heap.size ≤ q) (WT ad ca u ++ WM bd cb v) → va_S (fun q : Nat => s.heap.size ≤ q) s.heap H locs → W p l e room_1 s m #[Value.ref b] below meth c H locs 18 182 (lw_Z below #[Value.ref b] s) (F0 m 1184 ls [])) : W p l e room_1 s m #[Value.ref b] below meth c H locs 18 182 (lw_Z below #[Value.ref b] s) (F0 m 1137 ls []) := by
  obtain ⟨hx, hb, hr, hml, hown0, hts0, hX, hbl, hlocks, hgv⟩ := C0
  have hts : ∀ w ∈ wsL_law, w.before #[Value.ref b] s = true := fun w h => hts0 w (wsL_law_in w h)
  have hown : s.vm.findClass RL = some m.cls := hown0
  have hA : ∀ q : Nat, s.heap.size ≤ q → (fun q : Nat => s.heap.size ≤ q) q := fun _ h => h
  have hbA : ¬ (fun q : Nat => s.heap.size ≤ q) b := Nat.not_le.mpr hbl
  refine lv_aload_n hx hb dL_law_1137 rfl (lv_at hl 1 rfl) ?_
  refine lv_aload_n hx hb dL_law_1138 rfl (lv_at hl 0 rfl) ?_
  refine lv_iload_n hx hb dL_law_1139 rfl (lv_at hl 3 rfl) ?_
  refine lv_iconst (v := (1 : Int32)) hx hb dL_law_1140 (by decide) ?_
  refine lv_iadd hx hb dL_law_1141 ?_
  refine va_sld hx hb hX hbl hbA hS (sc_in hi hL 1 (by decide) (by decide)) dL_law_1142 ?_
  refine hc_V (C := RX6) (ci := 2) (T := TX6) (N := 7) (As := [.int (xs (nI i + (1 : Int32)).toNatClampNeg)]) (rest := []) ⟨hx, hb, hml, hown, hts⟩ (ct_X6_row l dC dI ad ca u (xs (nI i + (1 : Int32)).toNatClampNeg) (hR.ro6 (xs (nI i + (1 : Int32)).toNatClampNeg))) (cwV 1 hts gL_law_X6_row rfl rfl rfl (by decide +kernel) ⟨Nat.le_of_ble_eq_true rfl, Nat.le_of_ble_eq_true rfl⟩) (hw_part hP [0, 1, 2, 3, 4, 5, 6, 7, 8, 9] rfl) (hK.sub [0, 1, 2, 3, 4, 5] rfl) hNW rfl rfl rfl hl.1 rfl (Nat.le_of_ble_eq_true rfl) dL_law_1143 ⟨Nat.le_of_ble_eq_true rfl, Nat.le_of_ble_eq_true rfl⟩ ?_
  refine lv_aload_n hx hb dL_law_1146 rfl (lv_at hl 2 rfl) ?_
  refine lv_aload_n hx hb dL_law_1147 rfl (lv_at hl 0 rfl) ?_
  refine lv_iload_n hx hb dL_law_1148 rfl (lv_at hl 3 rfl) ?_
  refine lv_iconst (v := (1 : Int32)) hx hb dL_law_1149 (by decide) ?_
  refine lv_iadd hx hb dL_law_1150 ?_
  refine va_sld hx hb hX hbl hbA hS (sc_in hi hL 1 (by decide) (by decide)) dL_law_1151 ?_
  refine hc_V (C := RX7) (ci := 3) (T := TX7) (N := 17) (As := [.int (xs (nI i + (1 : Int32)).toNatClampNeg)]) (rest := [.long (mX6_row u (xs (nI i + (1 : Int32)).toNatClampNeg))]) ⟨hx, hb, hml, hown, hts⟩ (ct_X7_row l dC dI bd cb v (xs (nI i + (1 : Int32)).toNatClampNeg) hR.hsy hR.hgr hR.f7 hR.w2) (cwV 1 hts gL_law_X7_row rfl rfl rfl (by decide +kernel) ⟨Nat.le_of_ble_eq_true rfl, Nat.le_of_ble_eq_true rfl⟩) (hw_part hP [10, 11, 12, 13, 14, 15, 16, 17] rfl) (hK.sub [6, 7, 8, 9, 10, 11, 12] rfl) hNW rfl rfl rfl hl.1 rfl (Nat.le_of_ble_eq_true rfl) dL_law_1152 ⟨Nat.le_of_ble_eq_true rfl, Nat.le_of_ble_eq_true rfl⟩ ?_
  refine W.lcmp hx hb dL_law_1155 ?_
  refine lv_if_eq (tgt := 1184) hx hb dL_law_1156 (by decide) (fun c1 => ?_) (fun c1 => ?_)
  · exact kk u v _ _ hR hP hD hS
  · exact absurd ((lg_cmp_eq _ _).mpr (sim_row hR (xs (nI i + (1 : Int32)).toNatClampNeg))) c1

set_option maxHeartbeats 4000000 in
set_option maxRecDepth 100000 in
theorem lc_26 {p : Program} {e : Env} {s : State} {m : MethodId} {below : List Frame} {meth : Method} {c : Code} (l : Launch) {b L : Nat} {xs : Nat → Int32} (hL : L ≤ 2560) (C0 : lw_At p s m meth c b L xs) {dC : Nat → ClassId} {dI : Nat → Nat → Nat} {ad : Nat → Nat} {ca : Nat → ClassId} {bd : Nat → Nat} {cb : Nat → ClassId} {i : Nat} (hi : i + 5 ≤ L) {u : TS} {v : MS} (hR : RR u v) {H : Heap} {locs : List Loc} (hNW : NW s) (hK : va_K (dC, dI) vwCl ([((ca 4), .long), ((ca 5), .long), ((ca 6), .long), ((ca 7), .int), ((ca 8), .long), ((ca 9), .long)] ++ [((cb 1), .long), ((cb 2), .int), ((cb 3), .long), ((cb 4), .boolean), ((cb 5), .int), ((cb 6), .long), ((cb 7), .int)]) s) (hP : va_P (dC, dI) vwCl (WT ad ca u ++ WM bd cb v) H) (hD : va_D (fun q : Nat => s.heap.size ≤ q) (WT ad ca u ++ WM bd cb v)) (hS : va_S (fun q : Nat => s.heap.size ≤ q) s.heap H locs) {ls : Array Slot} (hl : lv_has ls 4 [(0, .ref b), (1, .ref (ad 0)), (2, .ref (bd 0)), (3, .int (nI i))]) (kk : ∀ (u : TS) (v : MS) (H : Heap) (locs : List Loc), RR u v → va_P (dC, dI) vwCl (WT ad ca u ++ WM bd cb v) H → va_D (fun q : Nat => s.heap.size ≤ q) (WT ad ca u ++ WM bd cb v) → va_S (fun q : Nat => s.heap.size ≤ q) s.heap H locs → W p l e room_1 s m #[Value.ref b] below meth c H locs 18 182 (lw_Z below #[Value.ref b] s) (F0 m 1184 ls [])) : W p l e room_1 s m #[Value.ref b] below meth c H locs 18 182 (lw_Z below #[Value.ref b] s) (F0 m 1161 ls []) := by
  obtain ⟨hx, hb, hr, hml, hown0, hts0, hX, hbl, hlocks, hgv⟩ := C0
  have hts : ∀ w ∈ wsL_law, w.before #[Value.ref b] s = true := fun w h => hts0 w (wsL_law_in w h)
  have hown : s.vm.findClass RL = some m.cls := hown0
  have hA : ∀ q : Nat, s.heap.size ≤ q → (fun q : Nat => s.heap.size ≤ q) q := fun _ h => h
  have hbA : ¬ (fun q : Nat => s.heap.size ≤ q) b := Nat.not_le.mpr hbl
  refine lv_aload_n hx hb dL_law_1161 rfl (lv_at hl 1 rfl) ?_
  refine lv_aload_n hx hb dL_law_1162 rfl (lv_at hl 0 rfl) ?_
  refine lv_iload_n hx hb dL_law_1163 rfl (lv_at hl 3 rfl) ?_
  refine lv_iconst (v := (1 : Int32)) hx hb dL_law_1164 (by decide) ?_
  refine lv_iadd hx hb dL_law_1165 ?_
  refine va_sld hx hb hX hbl hbA hS (sc_in hi hL 1 (by decide) (by decide)) dL_law_1166 ?_
  refine hc_V (C := RX6) (ci := 2) (T := TX6) (N := 7) (As := [.int (xs (nI i + (1 : Int32)).toNatClampNeg)]) (rest := []) ⟨hx, hb, hml, hown, hts⟩ (ct_X6_count l dC dI ad ca u (xs (nI i + (1 : Int32)).toNatClampNeg) ) (cwV 1 hts gL_law_X6_count rfl rfl rfl (by decide +kernel) ⟨Nat.le_of_ble_eq_true rfl, Nat.le_of_ble_eq_true rfl⟩) (hw_part hP [0, 1, 2, 3, 4, 5, 6, 7, 8, 9] rfl) (hK.sub [0, 1, 2, 3, 4, 5] rfl) hNW rfl rfl rfl hl.1 rfl (Nat.le_of_ble_eq_true rfl) dL_law_1167 ⟨Nat.le_of_ble_eq_true rfl, Nat.le_of_ble_eq_true rfl⟩ ?_
  refine lv_aload_n hx hb dL_law_1170 rfl (lv_at hl 2 rfl) ?_
  refine lv_aload_n hx hb dL_law_1171 rfl (lv_at hl 0 rfl) ?_
  refine lv_iload_n hx hb dL_law_1172 rfl (lv_at hl 3 rfl) ?_
  refine lv_iconst (v := (1 : Int32)) hx hb dL_law_1173 (by decide) ?_
  refine lv_iadd hx hb dL_law_1174 ?_
  refine va_sld hx hb hX hbl hbA hS (sc_in hi hL 1 (by decide) (by decide)) dL_law_1175 ?_
  refine hc_V (C := RX7) (ci := 3) (T := TX7) (N := 17) (As := [.int (xs (nI i + (1 : Int32)).toNatClampNeg)]) (rest := [.int (mX6_count u (xs (nI i + (1 : Int32)).toNatClampNeg))]) ⟨hx, hb, hml, hown, hts⟩ (ct_X7_count l dC dI bd cb v (xs (nI i + (1 : Int32)).toNatClampNeg) ) (cwV 1 hts gL_law_X7_count rfl rfl rfl (by decide +kernel) ⟨Nat.le_of_ble_eq_true rfl, Nat.le_of_ble_eq_true rfl⟩) (hw_part hP [10, 11, 12, 13, 14, 15, 16, 17] rfl) (hK.sub [6, 7, 8, 9, 10, 11, 12] rfl) hNW rfl rfl rfl hl.1 rfl (Nat.le_of_ble_eq_true rfl) dL_law_1176 ⟨Nat.le_of_ble_eq_true rfl, Nat.le_of_ble_eq_true rfl⟩ ?_
  refine lv_icmp_eq (tgt := 1184) hx hb dL_law_1179 (by decide) (fun c1 => ?_) (fun c1 => ?_)
  · exact kk u v _ _ hR hP hD hS
  · exact absurd (sim_count hR (xs (nI i + (1 : Int32)).toNatClampNeg)) c1
end
