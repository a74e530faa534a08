section
/-! THE LAW: its calls, one by one -/
set_option maxHeartbeats 4000000 in
set_option maxRecDepth 100000 in
theorem lc_9 {p : Program} {e : Env} {s : State} {m : MethodId} {below : List Frame} {meth : Method} {c : Code} (l : Launch) {b L : Nat} {xs : Nat → Int32} (hL : L ≤ 2560) (C0 : lw_At p s m meth c b L xs) {dC : Nat → ClassId} {dI : Nat → Nat → Nat} {ad : Nat → Nat} {ca : Nat → ClassId} {bd : Nat → Nat} {cb : Nat → ClassId} {i : Nat} (hi : i + 5 ≤ L) {u : TS} {v : MS} (hR : RR u v) {H : Heap} {locs : List Loc} (hNW : NW s) (hK : va_K (dC, dI) vwCl ([((ca 4), .long), ((ca 5), .long), ((ca 6), .long), ((ca 7), .int), ((ca 8), .long), ((ca 9), .long)] ++ [((cb 1), .long), ((cb 2), .int), ((cb 3), .long), ((cb 4), .boolean), ((cb 5), .int), ((cb 6), .long), ((cb 7), .int)]) s) (hP : va_P (dC, dI) vwCl (WT ad ca u ++ WM bd cb v) H) (hD : va_D (fun q : Nat => s.heap.size ≤ q) (WT ad ca u ++ WM bd cb v)) (hS : va_S (fun q : Nat => s.heap.size ≤ q) s.heap H locs) {ls : Array Slot} (hl : lv_has ls 4 [(0, .ref b), (1, .ref (ad 0)), (2, .ref (bd 0)), (3, .int (nI i))]) (kk : ∀ (u : TS) (v : MS) (H : Heap) (locs : List Loc), RR u v → va_P (dC, dI) vwCl (WT ad ca u ++ WM bd cb v) H → va_D (fun q : Nat => s.heap.size ≤ q) (WT ad ca u ++ WM bd cb v) → va_S (fun q : Nat => s.heap.size ≤ q) s.heap H locs → W p l e room_1 s m #[Value.ref b] below meth c H locs 18 182 (lw_Z below #[Value.ref b] s) (F0 m 1184 ls [])) : W p l e room_1 s m #[Value.ref b] below meth c H locs 18 182 (lw_Z below #[Value.ref b] s) (F0 m 663 ls []) := by
  obtain ⟨hx, hb, hr, hml, hown0, hts0, hX, hbl, hlocks, hgv⟩ := C0
  have hts : ∀ w ∈ wsL_law, w.before #[Value.ref b] s = true := fun w h => hts0 w (wsL_law_in w h)
  have hown : s.vm.findClass RL = some m.cls := hown0
  have hA : ∀ q : Nat, s.heap.size ≤ q → (fun q : Nat => s.heap.size ≤ q) q := fun _ h => h
  have hbA : ¬ (fun q : Nat => s.heap.size ≤ q) b := Nat.not_le.mpr hbl
  refine lv_aload_n hx hb dL_law_663 rfl (lv_at hl 1 rfl) ?_
  refine lv_aload_n hx hb dL_law_664 rfl (lv_at hl 0 rfl) ?_
  refine lv_iload_n hx hb dL_law_665 rfl (lv_at hl 3 rfl) ?_
  refine lv_iconst (v := (1 : Int32)) hx hb dL_law_666 (by decide) ?_
  refine lv_iadd hx hb dL_law_667 ?_
  refine va_sld hx hb hX hbl hbA hS (sc_in hi hL 1 (by decide) (by decide)) dL_law_668 ?_
  refine lv_aload_n hx hb dL_law_669 rfl (lv_at hl 0 rfl) ?_
  refine lv_iload_n hx hb dL_law_670 rfl (lv_at hl 3 rfl) ?_
  refine lv_iconst (v := (2 : Int32)) hx hb dL_law_671 (by decide) ?_
  refine lv_iadd hx hb dL_law_672 ?_
  refine va_sld hx hb hX hbl hbA hS (sc_in hi hL 2 (by decide) (by decide)) dL_law_673 ?_
  refine lv_i2l hx hb dL_law_674 rfl ?_
  refine lv_bipush (v := (32 : Int32)) hx hb dL_law_675 (by decide) ?_
  refine lv_lshl hx hb dL_law_677 rfl ?_
  refine lv_aload_n hx hb dL_law_678 rfl (lv_at hl 0 rfl) ?_
  refine lv_iload_n hx hb dL_law_679 rfl (lv_at hl 3 rfl) ?_
  refine lv_iconst (v := (3 : Int32)) hx hb dL_law_680 (by decide) ?_
  refine lv_iadd hx hb dL_law_681 ?_
  refine va_sld hx hb hX hbl hbA hS (sc_in hi hL 3 (by decide) (by decide)) dL_law_682 ?_
  refine lv_i2l hx hb dL_law_683 rfl ?_
  refine lv_ldc2 (v := (4294967295 : Int64)) hx hb hown (hts (.constantLong RL 13 (4294967295)) (by decide +kernel)) dL_law_684 ?_
  refine lv_land hx hb dL_law_687 ?_
  refine lv_lor hx hb dL_law_688 ?_
  refine hc_M (C := RX6) (ci := 2) (T := TX6) (N := 7) (As := [.int (xs (nI i + (1 : Int32)).toNatClampNeg), .long (((xs (nI i + (2 : Int32)).toNatClampNeg).toInt64 <<< ((32 : Int32).toInt64 &&& 63)) ||| ((xs (nI i + (3 : Int32)).toNatClampNeg).toInt64 &&& (4294967295 : Int64)))]) (rest := []) ⟨hx, hb, hml, hown, hts⟩ (ct_X6_guide l dC dI ad ca _ u (xs (nI i + (1 : Int32)).toNatClampNeg) (((xs (nI i + (2 : Int32)).toNatClampNeg).toInt64 <<< ((32 : Int32).toInt64 &&& 63)) ||| ((xs (nI i + (3 : Int32)).toNatClampNeg).toInt64 &&& (4294967295 : Int64))) ) (cwV 2 hts gL_law_X6_guide rfl rfl rfl (by decide +kernel) ⟨Nat.le_of_ble_eq_true rfl, Nat.le_of_ble_eq_true rfl⟩) hP hD (hK.sub [0, 1, 2, 3, 4, 5] rfl) hNW hS hA [0, 1, 2, 3, 4, 5, 6, 7, 8, 9] [10, 11, 12, 13, 14, 15, 16, 17] rfl (wr := (WM bd cb v)) rfl (by decide) (by decide) (by decide) rfl rfl rfl hl.1 rfl (Nat.le_of_ble_eq_true rfl) dL_law_689 ⟨Nat.le_of_ble_eq_true rfl, Nat.le_of_ble_eq_true rfl⟩ (fun H locs hP hD hS => ?_)
  have hP : va_P (dC, dI) vwCl (WT ad ca ((mX6_guide u (xs (nI i + (1 : Int32)).toNatClampNeg) (((xs (nI i + (2 : Int32)).toNatClampNeg).toInt64 <<< ((32 : Int32).toInt64 &&& 63)) ||| ((xs (nI i + (3 : Int32)).toNatClampNeg).toInt64 &&& (4294967295 : Int64)))).2) ++ WM bd cb v) H := hP.sub [8, 9, 10, 11, 12, 13, 14, 15, 16, 17, 0, 1, 2, 3, 4, 5, 6, 7] rfl
  have hD : va_D (fun q : Nat => s.heap.size ≤ q) (WT ad ca ((mX6_guide u (xs (nI i + (1 : Int32)).toNatClampNeg) (((xs (nI i + (2 : Int32)).toNatClampNeg).toInt64 <<< ((32 : Int32).toInt64 &&& 63)) ||| ((xs (nI i + (3 : Int32)).toNatClampNeg).toInt64 &&& (4294967295 : Int64)))).2) ++ WM bd cb v) := hD.sub [8, 9, 10, 11, 12, 13, 14, 15, 16, 17, 0, 1, 2, 3, 4, 5, 6, 7] (by decide) rfl
  refine W.eq (g2 := F0 m 692 ls (.int (mX6_guide u (xs (nI i + (1 : Int32)).toNatClampNeg) (((xs (nI i + (2 : Int32)).toNatClampNeg).toInt64 <<< ((32 : Int32).toInt64 &&& 63)) ||| ((xs (nI i + (3 : Int32)).toNatClampNeg).toInt64 &&& (4294967295 : Int64)))).1 :: [])) rfl ?_
  refine lv_aload_n hx hb dL_law_692 rfl (lv_at hl 2 rfl) ?_
  refine lv_aload_n hx hb dL_law_693 rfl (lv_at hl 0 rfl) ?_
  refine lv_iload_n hx hb dL_law_694 rfl (lv_at hl 3 rfl) ?_
  refine lv_iconst (v := (1 : Int32)) hx hb dL_law_695 (by decide) ?_
  refine lv_iadd hx hb dL_law_696 ?_
  refine va_sld hx hb hX hbl hbA hS (sc_in hi hL 1 (by decide) (by decide)) dL_law_697 ?_
  refine lv_aload_n hx hb dL_law_698 rfl (lv_at hl 0 rfl) ?_
  refine lv_iload_n hx hb dL_law_699 rfl (lv_at hl 3 rfl) ?_
  refine lv_iconst (v := (2 : Int32)) hx hb dL_law_700 (by decide) ?_
  refine lv_iadd hx hb dL_law_701 ?_
  refine va_sld hx hb hX hbl hbA hS (sc_in hi hL 2 (by decide) (by decide)) dL_law_702 ?_
  refine lv_i2l hx hb dL_law_703 rfl ?_
  refine lv_bipush (v := (32 : Int32)) hx hb dL_law_704 (by decide) ?_
  refine lv_lshl hx hb dL_law_706 rfl ?_
  refine lv_aload_n hx hb dL_law_707 rfl (lv_at hl 0 rfl) ?_
  refine lv_iload_n hx hb dL_law_708 rfl (lv_at hl 3 rfl) ?_
  refine lv_iconst (v := (3 : Int32)) hx hb dL_law_709 (by decide) ?_
  refine lv_iadd hx hb dL_law_710 ?_
  refine va_sld hx hb hX hbl hbA hS (sc_in hi hL 3 (by decide) (by decide)) dL_law_711 ?_
  refine lv_i2l hx hb dL_law_712 rfl ?_
  refine lv_ldc2 (v := (4294967295 : Int64)) hx hb hown (hts (.constantLong RL 13 (4294967295)) (by decide +kernel)) dL_law_713 ?_
  refine lv_land hx hb dL_law_716 ?_
  refine lv_lor hx hb dL_law_717 ?_
  refine hc_M (C := RX7) (ci := 3) (T := TX7) (N := 17) (As := [.int (xs (nI i + (1 : Int32)).toNatClampNeg), .long (((xs (nI i + (2 : Int32)).toNatClampNeg).toInt64 <<< ((32 : Int32).toInt64 &&& 63)) ||| ((xs (nI i + (3 : Int32)).toNatClampNeg).toInt64 &&& (4294967295 : Int64)))]) (rest := [.int ((mX6_guide u (xs (nI i + (1 : Int32)).toNatClampNeg) (((xs (nI i + (2 : Int32)).toNatClampNeg).toInt64 <<< ((32 : Int32).toInt64 &&& 63)) ||| ((xs (nI i + (3 : Int32)).toNatClampNeg).toInt64 &&& (4294967295 : Int64)))).1)]) ⟨hx, hb, hml, hown, hts⟩ (ct_X7_guide l dC dI bd cb _ v (xs (nI i + (1 : Int32)).toNatClampNeg) (((xs (nI i + (2 : Int32)).toNatClampNeg).toInt64 <<< ((32 : Int32).toInt64 &&& 63)) ||| ((xs (nI i + (3 : Int32)).toNatClampNeg).toInt64 &&& (4294967295 : Int64))) ) (cwV 2 hts gL_law_X7_guide rfl rfl rfl (by decide +kernel) ⟨Nat.le_of_ble_eq_true rfl, Nat.le_of_ble_eq_true rfl⟩) hP hD (hK.sub [6, 7, 8, 9, 10, 11, 12] rfl) hNW hS hA [10, 11, 12, 13, 14, 15, 16, 17] [0, 1, 2, 3, 4, 5, 6, 7, 8, 9] rfl (wr := (WT ad ca ((mX6_guide u (xs (nI i + (1 : Int32)).toNatClampNeg) (((xs (nI i + (2 : Int32)).toNatClampNeg).toInt64 <<< ((32 : Int32).toInt64 &&& 63)) ||| ((xs (nI i + (3 : Int32)).toNatClampNeg).toInt64 &&& (4294967295 : Int64)))).2))) rfl (by decide) (by decide) (by decide) rfl rfl rfl hl.1 rfl (Nat.le_of_ble_eq_true rfl) dL_law_718 ⟨Nat.le_of_ble_eq_true rfl, Nat.le_of_ble_eq_true rfl⟩ (fun H locs hP hD hS => ?_)
  have hP : va_P (dC, dI) vwCl (WT ad ca ((mX6_guide u (xs (nI i + (1 : Int32)).toNatClampNeg) (((xs (nI i + (2 : Int32)).toNatClampNeg).toInt64 <<< ((32 : Int32).toInt64 &&& 63)) ||| ((xs (nI i + (3 : Int32)).toNatClampNeg).toInt64 &&& (4294967295 : Int64)))).2) ++ WM bd cb ((mX7_guide v (xs (nI i + (1 : Int32)).toNatClampNeg) (((xs (nI i + (2 : Int32)).toNatClampNeg).toInt64 <<< ((32 : Int32).toInt64 &&& 63)) ||| ((xs (nI i + (3 : Int32)).toNatClampNeg).toInt64 &&& (4294967295 : Int64)))).2)) H := hP.sub [0, 1, 2, 3, 4, 5, 6, 7, 8, 9, 10, 11, 12, 13, 14, 15, 16, 17] rfl
  have hD : va_D (fun q : Nat => s.heap.size ≤ q) (WT ad ca ((mX6_guide u (xs (nI i + (1 : Int32)).toNatClampNeg) (((xs (nI i + (2 : Int32)).toNatClampNeg).toInt64 <<< ((32 : Int32).toInt64 &&& 63)) ||| ((xs (nI i + (3 : Int32)).toNatClampNeg).toInt64 &&& (4294967295 : Int64)))).2) ++ WM bd cb ((mX7_guide v (xs (nI i + (1 : Int32)).toNatClampNeg) (((xs (nI i + (2 : Int32)).toNatClampNeg).toInt64 <<< ((32 : Int32).toInt64 &&& 63)) ||| ((xs (nI i + (3 : Int32)).toNatClampNeg).toInt64 &&& (4294967295 : Int64)))).2)) := hD.sub [0, 1, 2, 3, 4, 5, 6, 7, 8, 9, 10, 11, 12, 13, 14, 15, 16, 17] (by decide) rfl
  refine W.eq (g2 := F0 m 721 ls (.int (mX7_guide v (xs (nI i + (1 : Int32)).toNatClampNeg) (((xs (nI i + (2 : Int32)).toNatClampNeg).toInt64 <<< ((32 : Int32).toInt64 &&& 63)) ||| ((xs (nI i + (3 : Int32)).toNatClampNeg).toInt64 &&& (4294967295 : Int64)))).1 :: [.int ((mX6_guide u (xs (nI i + (1 : Int32)).toNatClampNeg) (((xs (nI i + (2 : Int32)).toNatClampNeg).toInt64 <<< ((32 : Int32).toInt64 &&& 63)) ||| ((xs (nI i + (3 : Int32)).toNatClampNeg).toInt64 &&& (4294967295 : Int64)))).1)])) rfl ?_
  refine lv_icmp_eq (tgt := 1184) hx hb dL_law_721 (by decide) (fun c1 => ?_) (fun c1 => ?_)
  · exact kk _ _ _ _ (sim_guide hR (xs (nI i + (1 : Int32)).toNatClampNeg) (((xs (nI i + (2 : Int32)).toNatClampNeg).toInt64 <<< ((32 : Int32).toInt64 &&& 63)) ||| ((xs (nI i + (3 : Int32)).toNatClampNeg).toInt64 &&& (4294967295 : Int64)))).2 hP hD hS
  · exact absurd (sim_guide hR (xs (nI i + (1 : Int32)).toNatClampNeg) (((xs (nI i + (2 : Int32)).toNatClampNeg).toInt64 <<< ((32 : Int32).toInt64 &&& 63)) ||| ((xs (nI i + (3 : Int32)).toNatClampNeg).toInt64 &&& (4294967295 : Int64)))).1 c1

set_option maxHeartbeats 4000000 in
set_option maxRecDepth 100000 in
theorem lc_10 {p : Program} {e : Env} {s : State} {m : MethodId} {below : List Frame} {meth : Method} {c : Code} (l : Launch) {b L : Nat} {xs : Nat → Int32} (hL : L ≤ 2560) (C0 : lw_At p s m meth c b L xs) {dC : Nat → ClassId} {dI : Nat → Nat → Nat} {ad : Nat → Nat} {ca : Nat → ClassId} {bd : Nat → Nat} {cb : Nat → ClassId} {i : Nat} (hi : i + 5 ≤ L) {u : TS} {v : MS} (hR : RR u v) {H : Heap} {locs : List Loc} (hNW : NW s) (hK : va_K (dC, dI) vwCl ([((ca 4), .long), ((ca 5), .long), ((ca 6), .long), ((ca 7), .int), ((ca 8), .long), ((ca 9), .long)] ++ [((cb 1), .long), ((cb 2), .int), ((cb 3), .long), ((cb 4), .boolean), ((cb 5), .int), ((cb 6), .long), ((cb 7), .int)]) s) (hP : va_P (dC, dI) vwCl (WT ad ca u ++ WM bd cb v) H) (hD : va_D (fun q : Nat => s.heap.size ≤ q) (WT ad ca u ++ WM bd cb v)) (hS : va_S (fun q : Nat => s.heap.size ≤ q) s.heap H locs) {ls : Array Slot} (hl : lv_has ls 4 [(0, .ref b), (1, .ref (ad 0)), (2, .ref (bd 0)), (3, .int (nI i))]) (kk : ∀ (u : TS) (v : MS) (H : Heap) (locs : List Loc), RR u v → va_P (dC, dI) vwCl (WT ad ca u ++ WM bd cb v) H → va_D (fun q : Nat => s.heap.size ≤ q) (WT ad ca u ++ WM bd cb v) → va_S (fun q : Nat => s.heap.size ≤ q) s.heap H locs → W p l e room_1 s m #[Value.ref b] below meth c H locs 18 182 (lw_Z below #[Value.ref b] s) (F0 m 1184 ls [])) : W p l e room_1 s m #[Value.ref b] below meth c H locs 18 182 (lw_Z below #[Value.ref b] s) (F0 m 726 ls []) := by
  obtain ⟨hx, hb, hr, hml, hown0, hts0, hX, hbl, hlocks, hgv⟩ := C0
  have hts : ∀ w ∈ wsL_law, w.before #[Value.ref b] s = true := fun w h => hts0 w (wsL_law_in w h)
  have hown : s.vm.findClass RL = some m.cls := hown0
  have hA : ∀ q : Nat, s.heap.size ≤ q → (fun q : Nat => s.heap.size ≤ q) q := fun _ h => h
  have hbA : ¬ (fun q : Nat => s.heap.size ≤ q) b := Nat.not_le.mpr hbl
  refine lv_aload_n hx hb dL_law_726 rfl (lv_at hl 1 rfl) ?_
  refine lv_aload_n hx hb dL_law_727 rfl (lv_at hl 0 rfl) ?_
  refine lv_iload_n hx hb dL_law_728 rfl (lv_at hl 3 rfl) ?_
  refine lv_iconst (v := (1 : Int32)) hx hb dL_law_729 (by decide) ?_
  refine lv_iadd hx hb dL_law_730 ?_
  refine va_sld hx hb hX hbl hbA hS (sc_in hi hL 1 (by decide) (by decide)) dL_law_731 ?_
  refine lv_aload_n hx hb dL_law_732 rfl (lv_at hl 0 rfl) ?_
  refine lv_iload_n hx hb dL_law_733 rfl (lv_at hl 3 rfl) ?_
  refine lv_iconst (v := (2 : Int32)) hx hb dL_law_734 (by decide) ?_
  refine lv_iadd hx hb dL_law_735 ?_
  refine va_sld hx hb hX hbl hbA hS (sc_in hi hL 2 (by decide) (by decide)) dL_law_736 ?_
  refine lv_i2l hx hb dL_law_737 rfl ?_
  refine lv_bipush (v := (32 : Int32)) hx hb dL_law_738 (by decide) ?_
  refine lv_lshl hx hb dL_law_740 rfl ?_
  refine lv_aload_n hx hb dL_law_741 rfl (lv_at hl 0 rfl) ?_
  refine lv_iload_n hx hb dL_law_742 rfl (lv_at hl 3 rfl) ?_
  refine lv_iconst (v := (3 : Int32)) hx hb dL_law_743 (by decide) ?_
  refine lv_iadd hx hb dL_law_744 ?_
  refine va_sld hx hb hX hbl hbA hS (sc_in hi hL 3 (by decide) (by decide)) dL_law_745 ?_
  refine lv_i2l hx hb dL_law_746 rfl ?_
  refine lv_ldc2 (v := (4294967295 : Int64)) hx hb hown (hts (.constantLong RL 13 (4294967295)) (by decide +kernel)) dL_law_747 ?_
  refine lv_land hx hb dL_law_750 ?_
  refine lv_lor hx hb dL_law_751 ?_
  refine hc_M (C := RX6) (ci := 2) (T := TX6) (N := 7) (As := [.int (xs (nI i + (1 : Int32)).toNatClampNeg), .long (((xs (nI i + (2 : Int32)).toNatClampNeg).toInt64 <<< ((32 : Int32).toInt64 &&& 63)) ||| ((xs (nI i + (3 : Int32)).toNatClampNeg).toInt64 &&& (4294967295 : Int64)))]) (rest := []) ⟨hx, hb, hml, hown, hts⟩ (ct_X6_stick l dC dI ad ca _ u (xs (nI i + (1 : Int32)).toNatClampNeg) (((xs (nI i + (2 : Int32)).toNatClampNeg).toInt64 <<< ((32 : Int32).toInt64 &&& 63)) ||| ((xs (nI i + (3 : Int32)).toNatClampNeg).toInt64 &&& (4294967295 : Int64))) hR.hn hR.st6) (cwV 2 hts gL_law_X6_stick rfl rfl rfl (by decide +kernel) ⟨Nat.le_of_ble_eq_true rfl, Nat.le_of_ble_eq_true rfl⟩) hP hD (hK.sub [0, 1, 2, 3, 4, 5] rfl) hNW hS hA [0, 1, 2, 3, 4, 5, 6, 7, 8, 9] [10, 11, 12, 13, 14, 15, 16, 17] rfl (wr := (WM bd cb v)) rfl (by decide) (by decide) (by decide) rfl rfl rfl hl.1 rfl (Nat.le_of_ble_eq_true rfl) dL_law_752 ⟨Nat.le_of_ble_eq_true rfl, Nat.le_of_ble_eq_true rfl⟩ (fun H locs hP hD hS => ?_)
  have hP : va_P (dC, dI) vwCl (WT ad ca ((mX6_stick u (xs (nI i + (1 : Int32)).toNatClampNeg) (((xs (nI i + (2 : Int32)).toNatClampNeg).toInt64 <<< ((32 : Int32).toInt64 &&& 63)) ||| ((xs (nI i + (3 : Int32)).toNatClampNeg).toInt64 &&& (4294967295 : Int64)))).2) ++ WM bd cb v) H := hP.sub [8, 9, 10, 11, 12, 13, 14, 15, 16, 17, 0, 1, 2, 3, 4, 5, 6, 7] rfl
  have hD : va_D (fun q : Nat => s.heap.size ≤ q) (WT ad ca ((mX6_stick u (xs (nI i + (1 : Int32)).toNatClampNeg) (((xs (nI i + (2 : Int32)).toNatClampNeg).toInt64 <<< ((32 : Int32).toInt64 &&& 63)) ||| ((xs (nI i + (3 : Int32)).toNatClampNeg).toInt64 &&& (4294967295 : Int64)))).2) ++ WM bd cb v) := hD.sub [8, 9, 10, 11, 12, 13, 14, 15, 16, 17, 0, 1, 2, 3, 4, 5, 6, 7] (by decide) rfl
  refine W.eq (g2 := F0 m 755 ls (.int (mX6_stick u (xs (nI i + (1 : Int32)).toNatClampNeg) (((xs (nI i + (2 : Int32)).toNatClampNeg).toInt64 <<< ((32 : Int32).toInt64 &&& 63)) ||| ((xs (nI i + (3 : Int32)).toNatClampNeg).toInt64 &&& (4294967295 : Int64)))).1 :: [])) rfl ?_
  refine lv_aload_n hx hb dL_law_755 rfl (lv_at hl 2 rfl) ?_
  refine lv_aload_n hx hb dL_law_756 rfl (lv_at hl 0 rfl) ?_
  refine lv_iload_n hx hb dL_law_757 rfl (lv_at hl 3 rfl) ?_
  refine lv_iconst (v := (1 : Int32)) hx hb dL_law_758 (by decide) ?_
  refine lv_iadd hx hb dL_law_759 ?_
  refine va_sld hx hb hX hbl hbA hS (sc_in hi hL 1 (by decide) (by decide)) dL_law_760 ?_
  refine lv_aload_n hx hb dL_law_761 rfl (lv_at hl 0 rfl) ?_
  refine lv_iload_n hx hb dL_law_762 rfl (lv_at hl 3 rfl) ?_
  refine lv_iconst (v := (2 : Int32)) hx hb dL_law_763 (by decide) ?_
  refine lv_iadd hx hb dL_law_764 ?_
  refine va_sld hx hb hX hbl hbA hS (sc_in hi hL 2 (by decide) (by decide)) dL_law_765 ?_
  refine lv_i2l hx hb dL_law_766 rfl ?_
  refine lv_bipush (v := (32 : Int32)) hx hb dL_law_767 (by decide) ?_
  refine lv_lshl hx hb dL_law_769 rfl ?_
  refine lv_aload_n hx hb dL_law_770 rfl (lv_at hl 0 rfl) ?_
  refine lv_iload_n hx hb dL_law_771 rfl (lv_at hl 3 rfl) ?_
  refine lv_iconst (v := (3 : Int32)) hx hb dL_law_772 (by decide) ?_
  refine lv_iadd hx hb dL_law_773 ?_
  refine va_sld hx hb hX hbl hbA hS (sc_in hi hL 3 (by decide) (by decide)) dL_law_774 ?_
  refine lv_i2l hx hb dL_law_775 rfl ?_
  refine lv_ldc2 (v := (4294967295 : Int64)) hx hb hown (hts (.constantLong RL 13 (4294967295)) (by decide +kernel)) dL_law_776 ?_
  refine lv_land hx hb dL_law_779 ?_
  refine lv_lor hx hb dL_law_780 ?_
  refine hc_M (C := RX7) (ci := 3) (T := TX7) (N := 17) (As := [.int (xs (nI i + (1 : Int32)).toNatClampNeg), .long (((xs (nI i + (2 : Int32)).toNatClampNeg).toInt64 <<< ((32 : Int32).toInt64 &&& 63)) ||| ((xs (nI i + (3 : Int32)).toNatClampNeg).toInt64 &&& (4294967295 : Int64)))]) (rest := [.int ((mX6_stick u (xs (nI i + (1 : Int32)).toNatClampNeg) (((xs (nI i + (2 : Int32)).toNatClampNeg).toInt64 <<< ((32 : Int32).toInt64 &&& 63)) ||| ((xs (nI i + (3 : Int32)).toNatClampNeg).toInt64 &&& (4294967295 : Int64)))).1)]) ⟨hx, hb, hml, hown, hts⟩ (ct_X7_stick l dC dI bd cb _ v (xs (nI i + (1 : Int32)).toNatClampNeg) (((xs (nI i + (2 : Int32)).toNatClampNeg).toInt64 <<< ((32 : Int32).toInt64 &&& 63)) ||| ((xs (nI i + (3 : Int32)).toNatClampNeg).toInt64 &&& (4294967295 : Int64))) hR.ht hR.hsx hR.sg7 (hR.st7 (xs (nI i + (1 : Int32)).toNatClampNeg))) (cwV 2 hts gL_law_X7_stick rfl rfl rfl (by decide +kernel) ⟨Nat.le_of_ble_eq_true rfl, Nat.le_of_ble_eq_true rfl⟩) hP hD (hK.sub [6, 7, 8, 9, 10, 11, 12] rfl) hNW hS hA [10, 11, 12, 13, 14, 15, 16, 17] [0, 1, 2, 3, 4, 5, 6, 7, 8, 9] rfl (wr := (WT ad ca ((mX6_stick u (xs (nI i + (1 : Int32)).toNatClampNeg) (((xs (nI i + (2 : Int32)).toNatClampNeg).toInt64 <<< ((32 : Int32).toInt64 &&& 63)) ||| ((xs (nI i + (3 : Int32)).toNatClampNeg).toInt64 &&& (4294967295 : Int64)))).2))) rfl (by decide) (by decide) (by decide) rfl rfl rfl hl.1 rfl (Nat.le_of_ble_eq_true rfl) dL_law_781 ⟨Nat.le_of_ble_eq_true rfl, Nat.le_of_ble_eq_true rfl⟩ (fun H locs hP hD hS => ?_)
  have hP : va_P (dC, dI) vwCl (WT ad ca ((mX6_stick u (xs (nI i + (1 : Int32)).toNatClampNeg) (((xs (nI i + (2 : Int32)).toNatClampNeg).toInt64 <<< ((32 : Int32).toInt64 &&& 63)) ||| ((xs (nI i + (3 : Int32)).toNatClampNeg).toInt64 &&& (4294967295 : Int64)))).2) ++ WM bd cb ((mX7_stick v (xs (nI i + (1 : Int32)).toNatClampNeg) (((xs (nI i + (2 : Int32)).toNatClampNeg).toInt64 <<< ((32 : Int32).toInt64 &&& 63)) ||| ((xs (nI i + (3 : Int32)).toNatClampNeg).toInt64 &&& (4294967295 : Int64)))).2)) H := hP.sub [0, 1, 2, 3, 4, 5, 6, 7, 8, 9, 10, 11, 12, 13, 14, 15, 16, 17] rfl
  have hD : va_D (fun q : Nat => s.heap.size ≤ q) (WT ad ca ((mX6_stick u (xs (nI i + (1 : Int32)).toNatClampNeg) (((xs (nI i + (2 : Int32)).toNatClampNeg).toInt64 <<< ((32 : Int32).toInt64 &&& 63)) ||| ((xs (nI i + (3 : Int32)).toNatClampNeg).toInt64 &&& (4294967295 : Int64)))).2) ++ WM bd cb ((mX7_stick v (xs (nI i + (1 : Int32)).toNatClampNeg) (((xs (nI i + (2 : Int32)).toNatClampNeg).toInt64 <<< ((32 : Int32).toInt64 &&& 63)) ||| ((xs (nI i + (3 : Int32)).toNatClampNeg).toInt64 &&& (4294967295 : Int64)))).2)) := hD.sub [0, 1, 2, 3, 4, 5, 6, 7, 8, 9, 10, 11, 12, 13, 14, 15, 16, 17] (by decide) rfl
  refine W.eq (g2 := F0 m 784 ls (.int (mX7_stick v (xs (nI i + (1 : Int32)).toNatClampNeg) (((xs (nI i + (2 : Int32)).toNatClampNeg).toInt64 <<< ((32 : Int32).toInt64 &&& 63)) ||| ((xs (nI i + (3 : Int32)).toNatClampNeg).toInt64 &&& (4294967295 : Int64)))).1 :: [.int ((mX6_stick u (xs (nI i + (1 : Int32)).toNatClampNeg) (((xs (nI i + (2 : Int32)).toNatClampNeg).toInt64 <<< ((32 : Int32).toInt64 &&& 63)) ||| ((xs (nI i + (3 : Int32)).toNatClampNeg).toInt64 &&& (4294967295 : Int64)))).1)])) rfl ?_
  refine lv_icmp_eq (tgt := 1184) hx hb dL_law_784 (by decide) (fun c1 => ?_) (fun c1 => ?_)
  · exact kk _ _ _ _ (sim_stick hR (xs (nI i + (1 : Int32)).toNatClampNeg) (((xs (nI i + (2 : Int32)).toNatClampNeg).toInt64 <<< ((32 : Int32).toInt64 &&& 63)) ||| ((xs (nI i + (3 : Int32)).toNatClampNeg).toInt64 &&& (4294967295 : Int64)))).2 hP hD hS
  · exact absurd (sim_stick hR (xs (nI i + (1 : Int32)).toNatClampNeg) (((xs (nI i + (2 : Int32)).toNatClampNeg).toInt64 <<< ((32 : Int32).toInt64 &&& 63)) ||| ((xs (nI i + (3 : Int32)).toNatClampNeg).toInt64 &&& (4294967295 : Int64)))).1 c1

set_option maxHeartbeats 4000000 in
set_option maxRecDepth 100000 in
theorem lc_11 {p : Program} {e : Env} {s : State} {m : MethodId} {below : List Frame} {meth : Method} {c : Code} (l : Launch) {b L : Nat} {xs : Nat → Int32} (hL : L ≤ 2560) (C0 : lw_At p s m meth c b L xs) {dC : Nat → ClassId} {dI : Nat → Nat → Nat} {ad : Nat → Nat} {ca : Nat → ClassId} {bd : Nat → Nat} {cb : Nat → ClassId} {i : Nat} (hi : i + 5 ≤ L) {u : TS} {v : MS} (hR : RR u v) {H : Heap} {locs : List Loc} (hNW : NW s) (hK : va_K (dC, dI) vwCl ([((ca 4), .long), ((ca 5), .long), ((ca 6), .long), ((ca 7), .int), ((ca 8), .long), ((ca 9), .long)] ++ [((cb 1), .long), ((cb 2), .int), ((cb 3), .long), ((cb 4), .boolean), ((cb 5), .int), ((cb 6), .long), ((cb 7), .int)]) s) (hP : va_P (dC, dI) vwCl (WT ad ca u ++ WM bd cb v) H) (hD : va_D (fun q : Nat => s.heap.size ≤ q) (WT ad ca u ++ WM bd cb v)) (hS : va_S (fun q : Nat => s.heap.size ≤ q) s.heap H locs) {ls : Array Slot} (hl : lv_has ls 4 [(0, .ref b), (1, .ref (ad 0)), (2, .ref (bd 0)), (3, .int (nI i))]) (kk : ∀ (u : TS) (v : MS) (H : Heap) (locs : List Loc), RR u v → va_P (dC, dI) vwCl (WT ad ca u ++ WM bd cb v) H → va_D (fun q : Nat => s.heap.size ≤ q) (WT ad ca u ++ WM bd cb v) → va_S (fun q : Nat => s.heap.size ≤ q) s.heap H locs → W p l e room_1 s m #[Value.ref b] below meth c H locs 18 182 (lw_Z below #[Value.ref b] s) (F0 m 1184 ls [])) : W p l e room_1 s m #[Value.ref b] below meth c H locs 18 182 (lw_Z below #[Value.ref b] s) (F0 m 789 ls []) := by
  obtain ⟨hx, hb, hr, hml, hown0, hts0, hX, hbl, hlocks, hgv⟩ := C0
  have hts : ∀ w ∈ wsL_law, w.before #[Value.ref b] s = true := fun w h => hts0 w (wsL_law_in w h)
  have hown : s.vm.findClass RL = some m.cls := hown0
  have hA : ∀ q : Nat, s.heap.size ≤ q → (fun q : Nat => s.heap.size ≤ q) q := fun _ h => h
  have hbA : ¬ (fun q : Nat => s.heap.size ≤ q) b := Nat.not_le.mpr hbl
  refine lv_aload_n hx hb dL_law_789 rfl (lv_at hl 1 rfl) ?_
  refine hc_M (C := RX6) (ci := 2) (T := TX6) (N := 7) (As := []) (rest := []) ⟨hx, hb, hml, hown, hts⟩ (ct_X6_undo l dC dI ad ca _ u  hR.un6.1 hR.un6.2) (cwV 0 hts gL_law_X6_undo rfl rfl rfl (by decide +kernel) ⟨Nat.le_of_ble_eq_true rfl, Nat.le_of_ble_eq_true rfl⟩) hP hD (hK.sub [0, 1, 2, 3, 4, 5] rfl) hNW hS hA [0, 1, 2, 3, 4, 5, 6, 7, 8, 9] [10, 11, 12, 13, 14, 15, 16, 17] rfl (wr := (WM bd cb v)) rfl (by decide) (by decide) (by decide) rfl rfl rfl hl.1 rfl (Nat.le_of_ble_eq_true rfl) dL_law_790 ⟨Nat.le_of_ble_eq_true rfl, Nat.le_of_ble_eq_true rfl⟩ (fun H locs hP hD hS => ?_)
  have hP : va_P (dC, dI) vwCl (WT ad ca ((mX6_undo u).2) ++ WM bd cb v) H := hP.sub [8, 9, 10, 11, 12, 13, 14, 15, 16, 17, 0, 1, 2, 3, 4, 5, 6, 7] rfl
  have hD : va_D (fun q : Nat => s.heap.size ≤ q) (WT ad ca ((mX6_undo u).2) ++ WM bd cb v) := hD.sub [8, 9, 10, 11, 12, 13, 14, 15, 16, 17, 0, 1, 2, 3, 4, 5, 6, 7] (by decide) rfl
  refine W.eq (g2 := F0 m 793 ls (.int (mX6_undo u).1 :: [])) rfl ?_
  refine lv_aload_n hx hb dL_law_793 rfl (lv_at hl 2 rfl) ?_
  refine hc_M (C := RX7) (ci := 3) (T := TX7) (N := 17) (As := []) (rest := [.int ((mX6_undo u).1)]) ⟨hx, hb, hml, hown, hts⟩ (ct_X7_undo l dC dI bd cb _ v  (fun h => (hR.un7 h).1) (fun h => (hR.un7 h).2)) (cwV 0 hts gL_law_X7_undo rfl rfl rfl (by decide +kernel) ⟨Nat.le_of_ble_eq_true rfl, Nat.le_of_ble_eq_true rfl⟩) hP hD (hK.sub [6, 7, 8, 9, 10, 11, 12] rfl) hNW hS hA [10, 11, 12, 13, 14, 15, 16, 17] [0, 1, 2, 3, 4, 5, 6, 7, 8, 9] rfl (wr := (WT ad ca ((mX6_undo u).2))) rfl (by decide) (by decide) (by decide) rfl rfl rfl hl.1 rfl (Nat.le_of_ble_eq_true rfl) dL_law_794 ⟨Nat.le_of_ble_eq_true rfl, Nat.le_of_ble_eq_true rfl⟩ (fun H locs hP hD hS => ?_)
  have hP : va_P (dC, dI) vwCl (WT ad ca ((mX6_undo u).2) ++ WM bd cb ((mX7_undo v).2)) H := hP.sub [0, 1, 2, 3, 4, 5, 6, 7, 8, 9, 10, 11, 12, 13, 14, 15, 16, 17] rfl
  have hD : va_D (fun q : Nat => s.heap.size ≤ q) (WT ad ca ((mX6_undo u).2) ++ WM bd cb ((mX7_undo v).2)) := hD.sub [0, 1, 2, 3, 4, 5, 6, 7, 8, 9, 10, 11, 12, 13, 14, 15, 16, 17] (by decide) rfl
  refine W.eq (g2 := F0 m 797 ls (.int (mX7_undo v).1 :: [.int ((mX6_undo u).1)])) rfl ?_
  refine lv_icmp_eq (tgt := 1184) hx hb dL_law_797 (by decide) (fun c1 => ?_) (fun c1 => ?_)
  · exact kk _ _ _ _ (sim_undo hR ).2 hP hD hS
  · exact absurd (sim_undo hR ).1 c1

set_option maxHeartbeats 4000000 in
set_option maxRecDepth 100000 in
theorem lc_12 {p : Program} {e : Env} {s : State} {m : MethodId} {below : List Frame} {meth : Method} {c : Code} (l : Launch) {b L : Nat} {xs : Nat → Int32} (hL : L ≤ 2560) (C0 : lw_At p s m meth c b L xs) {dC : Nat → ClassId} {dI : Nat → Nat → Nat} {ad : Nat → Nat} {ca : Nat → ClassId} {bd : Nat → Nat} {cb : Nat → ClassId} {i : Nat} (hi : i + 5 ≤ L) {u : TS} {v : MS} (hR : RR u v) {H : Heap} {locs : List Loc} (hNW : NW s) (hK : va_K (dC, dI) vwCl ([((ca 4), .long), ((ca 5), .long), ((ca 6), .long), ((ca 7), .int), ((ca 8), .long), ((ca 9), .long)] ++ [((cb 1), .long), ((cb 2), .int), ((cb 3), .long), ((cb 4), .boolean), ((cb 5), .int), ((cb 6), .long), ((cb 7), .int)]) s) (hP : va_P (dC, dI) vwCl (WT ad ca u ++ WM bd cb v) H) (hD : va_D (fun q : Nat => s.heap.size ≤ q) (WT ad ca u ++ WM bd cb v)) (hS : va_S (fun q : Nat => s.heap.size ≤ q) s.heap H locs) {ls : Array Slot} (hl : lv_has ls 4 [(0, .ref b), (1, .ref (ad 0)), (2, .ref (bd 0)), (3, .int (nI i))]) (kk : ∀ (u : TS) (v : MS) (H : Heap) (locs : List Loc), RR u v → va_P (dC, dI) vwCl (WT ad ca u ++ WM bd cb v) H → va_D (fun q : Nat => s.heap.size ≤ q) (WT ad ca u ++ WM bd cb v) → va_S (fun q : Nat => s.heap.size ≤ q) s.heap H locs → W p l e room_1 s m #[Value.ref b] below meth c H locs 18 182 (lw_Z below #[Value.ref b] s) (F0 m 1184 ls [])) : W p l e room_1 s m #[Value.ref b] below meth c H locs 18 182 (lw_Z below #[Value.ref b] s) (F0 m 802 ls []) := by
  obtain ⟨hx, hb, hr, hml, hown0, hts0, hX, hbl, hlocks, hgv⟩ := C0
  have hts : ∀ w ∈ wsL_law, w.before #[Value.ref b] s = true := fun w h => hts0 w (wsL_law_in w h)
  have hown : s.vm.findClass RL = some m.cls := hown0
  have hA : ∀ q : Nat, s.heap.size ≤ q → (fun q : Nat => s.heap.size ≤ q) q := fun _ h => h
  have hbA : ¬ (fun q : Nat => s.heap.size ≤ q) b := Nat.not_le.mpr hbl
  refine lv_aload_n hx hb dL_law_802 rfl (lv_at hl 1 rfl) ?_
  refine lv_aload_n hx hb dL_law_803 rfl (lv_at hl 0 rfl) ?_
  refine lv_iload_n hx hb dL_law_804 rfl (lv_at hl 3 rfl) ?_
  refine lv_iconst (v := (1 : Int32)) hx hb dL_law_805 (by decide) ?_
  refine lv_iadd hx hb dL_law_806 ?_
  refine va_sld hx hb hX hbl hbA hS (sc_in hi hL 1 (by decide) (by decide)) dL_law_807 ?_
  refine hc_V (C := RX6) (ci := 2) (T := TX6) (N := 7) (As := [.int (xs (nI i + (1 : Int32)).toNatClampNeg)]) (rest := []) ⟨hx, hb, hml, hown, hts⟩ (ct_X6_x l dC dI ad ca u (xs (nI i + (1 : Int32)).toNatClampNeg) ) (cwV 1 hts gL_law_X6_x rfl rfl rfl (by decide +kernel) ⟨Nat.le_of_ble_eq_true rfl, Nat.le_of_ble_eq_true rfl⟩) (hw_part hP [0, 1, 2, 3, 4, 5, 6, 7, 8, 9] rfl) (hK.sub [0, 1, 2, 3, 4, 5] rfl) hNW rfl rfl rfl hl.1 rfl (Nat.le_of_ble_eq_true rfl) dL_law_808 ⟨Nat.le_of_ble_eq_true rfl, Nat.le_of_ble_eq_true rfl⟩ ?_
  refine lv_aload_n hx hb dL_law_811 rfl (lv_at hl 2 rfl) ?_
  refine lv_aload_n hx hb dL_law_812 rfl (lv_at hl 0 rfl) ?_
  refine lv_iload_n hx hb dL_law_813 rfl (lv_at hl 3 rfl) ?_
  refine lv_iconst (v := (1 : Int32)) hx hb dL_law_814 (by decide) ?_
  refine lv_iadd hx hb dL_law_815 ?_
  refine va_sld hx hb hX hbl hbA hS (sc_in hi hL 1 (by decide) (by decide)) dL_law_816 ?_
  refine hc_V (C := RX7) (ci := 3) (T := TX7) (N := 17) (As := [.int (xs (nI i + (1 : Int32)).toNatClampNeg)]) (rest := [.long (mX6_x u (xs (nI i + (1 : Int32)).toNatClampNeg))]) ⟨hx, hb, hml, hown, hts⟩ (ct_X7_x l dC dI bd cb v (xs (nI i + (1 : Int32)).toNatClampNeg) ) (cwV 1 hts gL_law_X7_x rfl rfl rfl (by decide +kernel) ⟨Nat.le_of_ble_eq_true rfl, Nat.le_of_ble_eq_true rfl⟩) (hw_part hP [10, 11, 12, 13, 14, 15, 16, 17] rfl) (hK.sub [6, 7, 8, 9, 10, 11, 12] rfl) hNW rfl rfl rfl hl.1 rfl (Nat.le_of_ble_eq_true rfl) dL_law_817 ⟨Nat.le_of_ble_eq_true rfl, Nat.le_of_ble_eq_true rfl⟩ ?_
  refine W.lcmp hx hb dL_law_820 ?_
  refine lv_if_eq (tgt := 1184) hx hb dL_law_821 (by decide) (fun c1 => ?_) (fun c1 => ?_)
  · exact kk u v _ _ hR hP hD hS
  · exact absurd ((lg_cmp_eq _ _).mpr (sim_x hR (xs (nI i + (1 : Int32)).toNatClampNeg))) c1

set_option maxHeartbeats 4000000 in
set_option maxRecDepth 100000 in
theorem lc_13 {p : Program} {e : Env} {s : State} {m : MethodId} {below : List Frame} {meth : Method} {c : Code} (l : Launch) {b L : Nat} {xs : Nat → Int32} (hL : L ≤ 2560) (C0 : lw_At p s m meth c b L xs) {dC : Nat → ClassId} {dI : Nat → Nat → Nat} {ad : Nat → Nat} {ca : Nat → ClassId} {bd : Nat → Nat} {cb : Nat → ClassId} {i : Nat} (hi : i + 5 ≤ L) {u : TS} {v : MS} (hR : RR u v) {H : Heap} {locs : List Loc} (hNW : NW s) (hK : va_K (dC, dI) vwCl ([((ca 4), .long), ((ca 5), .long), ((ca 6), .long), ((ca 7), .int), ((ca 8), .long), ((ca 9), .long)] ++ [((cb 1), .long), ((cb 2), .int), ((cb 3), .long), ((cb 4), .boolean), ((cb 5), .int), ((cb 6), .long), ((cb 7), .int)]) s) (hP : va_P (dC, dI) vwCl (WT ad ca u ++ WM bd cb v) H) (hD : va_D (fun q : Nat => s.heap.size ≤ q) (WT ad ca u ++ WM bd cb v)) (hS : va_S (fun q : Nat => s.heap.size ≤ q) s.heap H locs) {ls : Array Slot} (hl : lv_has ls 4 [(0, .ref b), (1, .ref (ad 0)), (2, .ref (bd 0)), (3, .int (nI i))]) (kk : ∀ (u : TS) (v : MS) (H : Heap) (locs : List Loc), RR u v → va_P (dC, dI) vwCl (WT ad ca u ++ WM bd cb v) H → va_D (fun q : Nat => s.heap.size ≤ q) (WT ad ca u ++ WM bd cb v) → va_S (fun q : Nat => s.heap.size ≤ q) s.heap H locs → W p l e room_1 s m #[Value.ref b] below meth c H locs 18 182 (lw_Z below #[Value.ref b] s) (F0 m 1184 ls [])) : W p l e room_1 s m #[Value.ref b] below meth c H locs 18 182 (lw_Z below #[Value.ref b] s) (F0 m 826 ls []) := by
  obtain ⟨hx, hb, hr, hml, hown0, hts0, hX, hbl, hlocks, hgv⟩ := C0
  have hts : ∀ w ∈ wsL_law, w.before #[Value.ref b] s = true := fun w h => hts0 w (wsL_law_in w h)
  have hown : s.vm.findClass RL = some m.cls := hown0
  have hA : ∀ q : Nat, s.heap.size ≤ q → (fun q : Nat => s.heap.size ≤ q) q := fun _ h => h
  have hbA : ¬ (fun q : Nat => s.heap.size ≤ q) b := Nat.not_le.mpr hbl
  refine lv_aload_n hx hb dL_law_826 rfl (lv_at hl 1 rfl) ?_
  refine lv_aload_n hx hb dL_law_827 rfl (lv_at hl 0 rfl) ?_
  refine lv_iload_n hx hb dL_law_828 rfl (lv_at hl 3 rfl) ?_
  refine lv_iconst (v := (1 : Int32)) hx hb dL_law_829 (by decide) ?_
  refine lv_iadd hx hb dL_law_830 ?_
  refine va_sld hx hb hX hbl hbA hS (sc_in hi hL 1 (by decide) (by decide)) dL_law_831 ?_
  refine hc_V (C := RX6) (ci := 2) (T := TX6) (N := 7) (As := [.int (xs (nI i + (1 : Int32)).toNatClampNeg)]) (rest := []) ⟨hx, hb, hml, hown, hts⟩ (ct_X6_y l dC dI ad ca u (xs (nI i + (1 : Int32)).toNatClampNeg) ) (cwV 1 hts gL_law_X6_y rfl rfl rfl (by decide +kernel) ⟨Nat.le_of_ble_eq_true rfl, Nat.le_of_ble_eq_true rfl⟩) (hw_part hP [0, 1, 2, 3, 4, 5, 6, 7, 8, 9] rfl) (hK.sub [0, 1, 2, 3, 4, 5] rfl) hNW rfl rfl rfl hl.1 rfl (Nat.le_of_ble_eq_true rfl) dL_law_832 ⟨Nat.le_of_ble_eq_true rfl, Nat.le_of_ble_eq_true rfl⟩ ?_
  refine lv_aload_n hx hb dL_law_835 rfl (lv_at hl 2 rfl) ?_
  refine lv_aload_n hx hb dL_law_836 rfl (lv_at hl 0 rfl) ?_
  refine lv_iload_n hx hb dL_law_837 rfl (lv_at hl 3 rfl) ?_
  refine lv_iconst (v := (1 : Int32)) hx hb dL_law_838 (by decide) ?_
  refine lv_iadd hx hb dL_law_839 ?_
  refine va_sld hx hb hX hbl hbA hS (sc_in hi hL 1 (by decide) (by decide)) dL_law_840 ?_
  refine hc_V (C := RX7) (ci := 3) (T := TX7) (N := 17) (As := [.int (xs (nI i + (1 : Int32)).toNatClampNeg)]) (rest := [.int (mX6_y u (xs (nI i + (1 : Int32)).toNatClampNeg))]) ⟨hx, hb, hml, hown, hts⟩ (ct_X7_y l dC dI bd cb v (xs (nI i + (1 : Int32)).toNatClampNeg) ) (cwV 1 hts gL_law_X7_y rfl rfl rfl (by decide +kernel) ⟨Nat.le_of_ble_eq_true rfl, Nat.le_of_ble_eq_true rfl⟩) (hw_part hP [10, 11, 12, 13, 14, 15, 16, 17] rfl) (hK.sub [6, 7, 8, 9, 10, 11, 12] rfl) hNW rfl rfl rfl hl.1 rfl (Nat.le_of_ble_eq_true rfl) dL_law_841 ⟨Nat.le_of_ble_eq_true rfl, Nat.le_of_ble_eq_true rfl⟩ ?_
  refine lv_icmp_eq (tgt := 1184) hx hb dL_law_844 (by decide) (fun c1 => ?_) (fun c1 => ?_)
  · exact kk u v _ _ hR hP hD hS
  · exact absurd (sim_y hR (xs (nI i + (1 : Int32)).toNatClampNeg)) c1

set_option maxHeartbeats 4000000 in
set_option maxRecDepth 100000 in
theorem lc_14 {p : Program} {e : Env} {s : State} {m : MethodId} {below : List Frame} {meth : Method} {c : Code} (l : Launch) {b L : Nat} {xs : Nat → Int32} (hL : L ≤ 2560) (C0 : lw_At p s m meth c b L xs) {dC : Nat → ClassId} {dI : Nat → Nat → Nat} {ad : Nat → Nat} {ca : Nat → ClassId} {bd : Nat → Nat} {cb : Nat → ClassId} {i : Nat} (hi : i + 5 ≤ L) {u : TS} {v : MS} (hR : RR u v) {H : Heap} {locs : List Loc} (hNW : NW s) (hK : va_K (dC, dI) vwCl ([((ca 4), .long), ((ca 5), .long), ((ca 6), .long), ((ca 7), .int), ((ca 8), .long), ((ca 9), .long)] ++ [((cb 1), .long), ((cb 2), .int), ((cb 3), .long), ((cb 4), .boolean), ((cb 5), .int), ((cb 6), .long), ((cb 7), .int)]) s) (hP : va_P (dC, dI) vwCl (WT ad ca u ++ WM bd cb v) H) (hD : va_D (fun q : Nat => s.heap.size ≤ q) (WT ad ca u ++ WM bd cb v)) (hS : va_S (fun q : Nat => s.heap.size ≤ q) s.heap H locs) {ls : Array Slot} (hl : lv_has ls 4 [(0, .ref b), (1, .ref (ad 0)), (2, .ref (bd 0)), (3, .int (nI i))]) (kk : ∀ (u : TS) (v : MS) (H : Heap) (locs : List Loc), RR u v → va_P (dC, dI) vwCl (WT ad ca u ++ WM bd cb v) H → va_D (fun q : Nat => s.heap.size ≤ q) (WT ad ca u ++ WM bd cb v) → va_S (fun q : Nat => s.heap.size ≤ q) s.heap H locs → W p l e room_1 s m #[Value.ref b] below meth c H locs 18 182 (lw_Z below #[Value.ref b] s) (F0 m 1184 ls [])) : W p l e room_1 s m #[Value.ref b] below meth c H locs 18 182 (lw_Z below #[Value.ref b] s) (F0 m 849 ls []) := by
  obtain ⟨hx, hb, hr, hml, hown0, hts0, hX, hbl, hlocks, hgv⟩ := C0
  have hts : ∀ w ∈ wsL_law, w.before #[Value.ref b] s = true := fun w h => hts0 w (wsL_law_in w h)
  have hown : s.vm.findClass RL = some m.cls := hown0
  have hA : ∀ q : Nat, s.heap.size ≤ q → (fun q : Nat => s.heap.size ≤ q) q := fun _ h => h
  have hbA : ¬ (fun q : Nat => s.heap.size ≤ q) b := Nat.not_le.mpr hbl
  refine lv_aload_n hx hb dL_law_849 rfl (lv_at hl 1 rfl) ?_
  refine lv_aload_n hx hb dL_law_850 rfl (lv_at hl 0 rfl) ?_
  refine lv_iload_n hx hb dL_law_851 rfl (lv_at hl 3 rfl) ?_
  refine lv_iconst (v := (1 : Int32)) hx hb dL_law_852 (by decide) ?_
  refine lv_iadd hx hb dL_law_853 ?_
  refine va_sld hx hb hX hbl hbA hS (sc_in hi hL 1 (by decide) (by decide)) dL_law_854 ?_
  refine hc_V (C := RX6) (ci := 2) (T := TX6) (N := 7) (As := [.int (xs (nI i + (1 : Int32)).toNatClampNeg)]) (rest := []) ⟨hx, hb, hml, hown, hts⟩ (ct_X6_side l dC dI ad ca u (xs (nI i + (1 : Int32)).toNatClampNeg) ) (cwV 1 hts gL_law_X6_side rfl rfl rfl (by decide +kernel) ⟨Nat.le_of_ble_eq_true rfl, Nat.le_of_ble_eq_true rfl⟩) (hw_part hP [0, 1, 2, 3, 4, 5, 6, 7, 8, 9] rfl) (hK.sub [0, 1, 2, 3, 4, 5] rfl) hNW rfl rfl rfl hl.1 rfl (Nat.le_of_ble_eq_true rfl) dL_law_855 ⟨Nat.le_of_ble_eq_true rfl, Nat.le_of_ble_eq_true rfl⟩ ?_
  refine lv_aload_n hx hb dL_law_858 rfl (lv_at hl 2 rfl) ?_
  refine lv_aload_n hx hb dL_law_859 rfl (lv_at hl 0 rfl) ?_
  refine lv_iload_n hx hb dL_law_860 rfl (lv_at hl 3 rfl) ?_
  refine lv_iconst (v := (1 : Int32)) hx hb dL_law_861 (by decide) ?_
  refine lv_iadd hx hb dL_law_862 ?_
  refine va_sld hx hb hX hbl hbA hS (sc_in hi hL 1 (by decide) (by decide)) dL_law_863 ?_
  refine hc_V (C := RX7) (ci := 3) (T := TX7) (N := 17) (As := [.int (xs (nI i + (1 : Int32)).toNatClampNeg)]) (rest := [.long (mX6_side u (xs (nI i + (1 : Int32)).toNatClampNeg))]) ⟨hx, hb, hml, hown, hts⟩ (ct_X7_side l dC dI bd cb v (xs (nI i + (1 : Int32)).toNatClampNeg) ) (cwV 1 hts gL_law_X7_side rfl rfl rfl (by decide +kernel) ⟨Nat.le_of_ble_eq_true rfl, Nat.le_of_ble_eq_true rfl⟩) (hw_part hP [10, 11, 12, 13, 14, 15, 16, 17] rfl) (hK.sub [6, 7, 8, 9, 10, 11, 12] rfl) hNW rfl rfl rfl hl.1 rfl (Nat.le_of_ble_eq_true rfl) dL_law_864 ⟨Nat.le_of_ble_eq_true rfl, Nat.le_of_ble_eq_true rfl⟩ ?_
  refine W.lcmp hx hb dL_law_867 ?_
  refine lv_if_eq (tgt := 1184) hx hb dL_law_868 (by decide) (fun c1 => ?_) (fun c1 => ?_)
  · exact kk u v _ _ hR hP hD hS
  · exact absurd ((lg_cmp_eq _ _).mpr (sim_side hR (xs (nI i + (1 : Int32)).toNatClampNeg))) c1

set_option maxHeartbeats 4000000 in
set_option maxRecDepth 100000 in
theorem lc_15 {p : Program} {e : Env} {s : State} {m : MethodId} {below : List Frame} {meth : Method} {c : Code} (l : Launch) {b L : Nat} {xs : Nat → Int32} (hL : L ≤ 2560) (C0 : lw_At p s m meth c b L xs) {dC : Nat → ClassId} {dI : Nat → Nat → Nat} {ad : Nat → Nat} {ca : Nat → ClassId} {bd : Nat → Nat} {cb : Nat → ClassId} {i : Nat} (hi : i + 5 ≤ L) {u : TS} {v : MS} (hR : RR u v) {H : Heap} {locs : List Loc} (hNW : NW s) (hK : va_K (dC, dI) vwCl ([((ca 4), .long), ((ca 5), .long), ((ca 6), .long), ((ca 7), .int), ((ca 8), .long), ((ca 9), .long)] ++ [((cb 1), .long), ((cb 2), .int), ((cb 3), .long), ((cb 4), .boolean), ((cb 5), .int), ((cb 6), .long), ((cb 7), .int)]) s) (hP : va_P (dC, dI) vwCl (WT ad ca u ++ WM bd cb v) H) (hD : va_D (fun q : Nat => s.heap.size ≤ q) (WT ad ca u ++ WM bd cb v)) (hS : va_S (fun q : Nat => s.heap.size ≤ q) s.heap H locs) {ls : Array Slot} (hl : lv_has ls 4 [(0, .ref b), (1, .ref (ad 0)), (2, .ref (bd 0)), (3, .int (nI i))]) (kk : ∀ (u : TS) (v : MS) (H : Heap) (locs : List Loc), RR u v → va_P (dC, dI) vwCl (WT ad ca u ++ WM bd cb v) H → va_D (fun q : Nat => s.heap.size ≤ q) (WT ad ca u ++ WM bd cb v) → va_S (fun q : Nat => s.heap.size ≤ q) s.heap H locs → W p l e room_1 s m #[Value.ref b] below meth c H locs 18 182 (lw_Z below #[Value.ref b] s) (F0 m 1184 ls [])) : W p l e room_1 s m #[Value.ref b] below meth c H locs 18 182 (lw_Z below #[Value.ref b] s) (F0 m 873 ls []) := by
  obtain ⟨hx, hb, hr, hml, hown0, hts0, hX, hbl, hlocks, hgv⟩ := C0
  have hts : ∀ w ∈ wsL_law, w.before #[Value.ref b] s = true := fun w h => hts0 w (wsL_law_in w h)
  have hown : s.vm.findClass RL = some m.cls := hown0
  have hA : ∀ q : Nat, s.heap.size ≤ q → (fun q : Nat => s.heap.size ≤ q) q := fun _ h => h
  have hbA : ¬ (fun q : Nat => s.heap.size ≤ q) b := Nat.not_le.mpr hbl
  refine lv_aload_n hx hb dL_law_873 rfl (lv_at hl 1 rfl) ?_
  refine lv_aload_n hx hb dL_law_874 rfl (lv_at hl 0 rfl) ?_
  refine lv_iload_n hx hb dL_law_875 rfl (lv_at hl 3 rfl) ?_
  refine lv_iconst (v := (1 : Int32)) hx hb dL_law_876 (by decide) ?_
  refine lv_iadd hx hb dL_law_877 ?_
  refine va_sld hx hb hX hbl hbA hS (sc_in hi hL 1 (by decide) (by decide)) dL_law_878 ?_
  refine hc_V (C := RX6) (ci := 2) (T := TX6) (N := 7) (As := [.int (xs (nI i + (1 : Int32)).toNatClampNeg)]) (rest := []) ⟨hx, hb, hml, hown, hts⟩ (ct_X6_lift l dC dI ad ca u (xs (nI i + (1 : Int32)).toNatClampNeg) ) (cwV 1 hts gL_law_X6_lift rfl rfl rfl (by decide +kernel) ⟨Nat.le_of_ble_eq_true rfl, Nat.le_of_ble_eq_true rfl⟩) (hw_part hP [0, 1, 2, 3, 4, 5, 6, 7, 8, 9] rfl) (hK.sub [0, 1, 2, 3, 4, 5] rfl) hNW rfl rfl rfl hl.1 rfl (Nat.le_of_ble_eq_true rfl) dL_law_879 ⟨Nat.le_of_ble_eq_true rfl, Nat.le_of_ble_eq_true rfl⟩ ?_
  refine lv_aload_n hx hb dL_law_882 rfl (lv_at hl 2 rfl) ?_
  refine lv_aload_n hx hb dL_law_883 rfl (lv_at hl 0 rfl) ?_
  refine lv_iload_n hx hb dL_law_884 rfl (lv_at hl 3 rfl) ?_
  refine lv_iconst (v := (1 : Int32)) hx hb dL_law_885 (by decide) ?_
  refine lv_iadd hx hb dL_law_886 ?_
  refine va_sld hx hb hX hbl hbA hS (sc_in hi hL 1 (by decide) (by decide)) dL_law_887 ?_
  refine hc_V (C := RX7) (ci := 3) (T := TX7) (N := 17) (As := [.int (xs (nI i + (1 : Int32)).toNatClampNeg)]) (rest := [.int (mX6_lift u (xs (nI i + (1 : Int32)).toNatClampNeg))]) ⟨hx, hb, hml, hown, hts⟩ (ct_X7_lift l dC dI bd cb v (xs (nI i + (1 : Int32)).toNatClampNeg) ) (cwV 1 hts gL_law_X7_lift rfl rfl rfl (by decide +kernel) ⟨Nat.le_of_ble_eq_true rfl, Nat.le_of_ble_eq_true rfl⟩) (hw_part hP [10, 11, 12, 13, 14, 15, 16, 17] rfl) (hK.sub [6, 7, 8, 9, 10, 11, 12] rfl) hNW rfl rfl rfl hl.1 rfl (Nat.le_of_ble_eq_true rfl) dL_law_888 ⟨Nat.le_of_ble_eq_true rfl, Nat.le_of_ble_eq_true rfl⟩ ?_
  refine lv_icmp_eq (tgt := 1184) hx hb dL_law_891 (by decide) (fun c1 => ?_) (fun c1 => ?_)
  · exact kk u v _ _ hR hP hD hS
  · exact absurd (sim_lift hR (xs (nI i + (1 : Int32)).toNatClampNeg)) c1

set_option maxHeartbeats 4000000 in
set_option maxRecDepth 100000 in
theorem lc_16 {p : Program} {e : Env} {s : State} {m : MethodId} {below : List Frame} {meth : Method} {c : Code} (l : Launch) {b L : Nat} {xs : Nat → Int32} (hL : L ≤ 2560) (C0 : lw_At p s m meth c b L xs) {dC : Nat → ClassId} {dI : Nat → Nat → Nat} {ad : Nat → Nat} {ca : Nat → ClassId} {bd : Nat → Nat} {cb : Nat → ClassId} {i : Nat} (hi : i + 5 ≤ L) {u : TS} {v : MS} (hR : RR u v) {H : Heap} {locs : List Loc} (hNW : NW s) (hK : va_K (dC, dI) vwCl ([((ca 4), .long), ((ca 5), .long), ((ca 6), .long), ((ca 7), .int), ((ca 8), .long), ((ca 9), .long)] ++ [((cb 1), .long), ((cb 2), .int), ((cb 3), .long), ((cb 4), .boolean), ((cb 5), .int), ((cb 6), .long), ((cb 7), .int)]) s) (hP : va_P (dC, dI) vwCl (WT ad ca u ++ WM bd cb v) H) (hD : va_D (fun q : Nat => s.heap.size ≤ q) (WT ad ca u ++ WM bd cb v)) (hS : va_S (fun q : Nat => s.heap.size ≤ q) s.heap H locs) {ls : Array Slot} (hl : lv_has ls 4 [(0, .ref b), (1, .ref (ad 0)), (2, .ref (bd 0)), (3, .int (nI i))]) (kk : ∀ (u : TS) (v : MS) (H : Heap) (locs : List Loc), RR u v → va_P (dC, dI) vwCl (WT ad ca u ++ WM bd cb v) H → va_D (fun q : Nat => s.heap.size ≤ q) (WT ad ca u ++ WM bd cb v) → va_S (fun q : Nat => s.heap.size ≤ q) s.heap H locs → W p l e room_1 s m #[Value.ref b] below meth c H locs 18 182 (lw_Z below #[Value.ref b] s) (F0 m 1184 ls [])) : W p l e room_1 s m #[Value.ref b] below meth c H locs 18 182 (lw_Z below #[Value.ref b] s) (F0 m 896 ls []) := by
  obtain ⟨hx, hb, hr, hml, hown0, hts0, hX, hbl, hlocks, hgv⟩ := C0
  have hts : ∀ w ∈ wsL_law, w.before #[Value.ref b] s = true := fun w h => hts0 w (wsL_law_in w h)
  have hown : s.vm.findClass RL = some m.cls := hown0
  have hA : ∀ q : Nat, s.heap.size ≤ q → (fun q : Nat => s.heap.size ≤ q) q := fun _ h => h
  have hbA : ¬ (fun q : Nat => s.heap.size ≤ q) b := Nat.not_le.mpr hbl
  refine lv_aload_n hx hb dL_law_896 rfl (lv_at hl 1 rfl) ?_
  refine lv_aload_n hx hb dL_law_897 rfl (lv_at hl 0 rfl) ?_
  refine lv_iload_n hx hb dL_law_898 rfl (lv_at hl 3 rfl) ?_
  refine lv_iconst (v := (1 : Int32)) hx hb dL_law_899 (by decide) ?_
  refine lv_iadd hx hb dL_law_900 ?_
  refine va_sld hx hb hX hbl hbA hS (sc_in hi hL 1 (by decide) (by decide)) dL_law_901 ?_
  refine lv_aload_n hx hb dL_law_902 rfl (lv_at hl 0 rfl) ?_
  refine lv_iload_n hx hb dL_law_903 rfl (lv_at hl 3 rfl) ?_
  refine lv_iconst (v := (2 : Int32)) hx hb dL_law_904 (by decide) ?_
  refine lv_iadd hx hb dL_law_905 ?_
  refine va_sld hx hb hX hbl hbA hS (sc_in hi hL 2 (by decide) (by decide)) dL_law_906 ?_
  refine hc_V (C := RX6) (ci := 2) (T := TX6) (N := 7) (As := [.int (xs (nI i + (1 : Int32)).toNatClampNeg), .int (xs (nI i + (2 : Int32)).toNatClampNeg)]) (rest := []) ⟨hx, hb, hml, hown, hts⟩ (ct_X6_far l dC dI ad ca u (xs (nI i + (1 : Int32)).toNatClampNeg) (xs (nI i + (2 : Int32)).toNatClampNeg) hR.fW6 hR.fH6) (cwV 2 hts gL_law_X6_far rfl rfl rfl (by decide +kernel) ⟨Nat.le_of_ble_eq_true rfl, Nat.le_of_ble_eq_true rfl⟩) (hw_part hP [0, 1, 2, 3, 4, 5, 6, 7, 8, 9] rfl) (hK.sub [0, 1, 2, 3, 4, 5] rfl) hNW rfl rfl rfl hl.1 rfl (Nat.le_of_ble_eq_true rfl) dL_law_907 ⟨Nat.le_of_ble_eq_true rfl, Nat.le_of_ble_eq_true rfl⟩ ?_
  refine lv_aload_n hx hb dL_law_910 rfl (lv_at hl 2 rfl) ?_
  refine lv_aload_n hx hb dL_law_911 rfl (lv_at hl 0 rfl) ?_
  refine lv_iload_n hx hb dL_law_912 rfl (lv_at hl 3 rfl) ?_
  refine lv_iconst (v := (1 : Int32)) hx hb dL_law_913 (by decide) ?_
  refine lv_iadd hx hb dL_law_914 ?_
  refine va_sld hx hb hX hbl hbA hS (sc_in hi hL 1 (by decide) (by decide)) dL_law_915 ?_
  refine lv_aload_n hx hb dL_law_916 rfl (lv_at hl 0 rfl) ?_
  refine lv_iload_n hx hb dL_law_917 rfl (lv_at hl 3 rfl) ?_
  refine lv_iconst (v := (2 : Int32)) hx hb dL_law_918 (by decide) ?_
  refine lv_iadd hx hb dL_law_919 ?_
  refine va_sld hx hb hX hbl hbA hS (sc_in hi hL 2 (by decide) (by decide)) dL_law_920 ?_
  refine hc_V (C := RX7) (ci := 3) (T := TX7) (N := 17) (As := [.int (xs (nI i + (1 : Int32)).toNatClampNeg), .int (xs (nI i + (2 : Int32)).toNatClampNeg)]) (rest := [.long (mX6_far u (xs (nI i + (1 : Int32)).toNatClampNeg) (xs (nI i + (2 : Int32)).toNatClampNeg))]) ⟨hx, hb, hml, hown, hts⟩ (ct_X7_far l dC dI bd cb v (xs (nI i + (1 : Int32)).toNatClampNeg) (xs (nI i + (2 : Int32)).toNatClampNeg) hR.hsx hR.hsy hR.fd7 hR.ff7 hR.fb7 hR.fn7) (cwV 2 hts gL_law_X7_far rfl rfl rfl (by decide +kernel) ⟨Nat.le_of_ble_eq_true rfl, Nat.le_of_ble_eq_true rfl⟩) (hw_part hP [10, 11, 12, 13, 14, 15, 16, 17] rfl) (hK.sub [6, 7, 8, 9, 10, 11, 12] rfl) hNW rfl rfl rfl hl.1 rfl (Nat.le_of_ble_eq_true rfl) dL_law_921 ⟨Nat.le_of_ble_eq_true rfl, Nat.le_of_ble_eq_true rfl⟩ ?_
  refine W.lcmp hx hb dL_law_924 ?_
  refine lv_if_eq (tgt := 1184) hx hb dL_law_925 (by decide) (fun c1 => ?_) (fun c1 => ?_)
  · exact kk u v _ _ hR hP hD hS
  · exact absurd ((lg_cmp_eq _ _).mpr (sim_far hR (xs (nI i + (1 : Int32)).toNatClampNeg) (xs (nI i + (2 : Int32)).toNatClampNeg))) c1

set_option maxHeartbeats 4000000 in
set_option maxRecDepth 100000 in
theorem lc_17 {p : Program} {e : Env} {s : State} {m : MethodId} {below : List Frame} {meth : Method} {c : Code} (l : Launch) {b L : Nat} {xs : Nat → Int32} (hL : L ≤ 2560) (C0 : lw_At p s m meth c b L xs) {dC : Nat → ClassId} {dI : Nat → Nat → Nat} {ad : Nat → Nat} {ca : Nat → ClassId} {bd : Nat → Nat} {cb : Nat → ClassId} {i : Nat} (hi : i + 5 ≤ L) {u : TS} {v : MS} (hR : RR u v) {H : Heap} {locs : List Loc} (hNW : NW s) (hK : va_K (dC, dI) vwCl ([((ca 4), .long), ((ca 5), .long), ((ca 6), .long), ((ca 7), .int), ((ca 8), .long), ((ca 9), .long)] ++ [((cb 1), .long), ((cb 2), .int), ((cb 3), .long), ((cb 4), .boolean), ((cb 5), .int), ((cb 6), .long), ((cb 7), .int)]) s) (hP : va_P (dC, dI) vwCl (WT ad ca u ++ WM bd cb v) H) (hD : va_D (fun q : Nat => s.heap.size ≤ q) (WT ad ca u ++ WM bd cb v)) (hS : va_S (fun q : Nat => s.heap.size ≤ q) s.heap H locs) {ls : Array Slot} (hl : lv_has ls 4 [(0, .ref b), (1, .ref (ad 0)), (2, .ref (bd 0)), (3, .int (nI i))]) (kk : ∀ (u : TS) (v : MS) (H : Heap) (locs : List Loc), RR u v → va_P (dC, dI) vwCl (WT ad ca u ++ WM bd cb v) H → va_D (fun q : Nat => s.heap.size ≤ q) (WT ad ca u ++ WM bd cb v) → va_S (fun q : Nat => s.heap.size ≤ q) s.heap H locs → W p l e room_1 s m #[Value.ref b] below meth c H locs 18 182 (lw_Z below #[Value.ref b] s) (F0 m 1184 ls [])) : W p l e room_1 s m #[Value.ref b] below meth c H locs 18 182 (lw_Z below #[Value.ref b] s) (F0 m 930 ls []) := by
  obtain ⟨hx, hb, hr, hml, hown0, hts0, hX, hbl, hlocks, hgv⟩ := C0
  have hts : ∀ w ∈ wsL_law, w.before #[Value.ref b] s = true := fun w h => hts0 w (wsL_law_in w h)
  have hown : s.vm.findClass RL = some m.cls := hown0
  have hA : ∀ q : Nat, s.heap.size ≤ q → (fun q : Nat => s.heap.size ≤ q) q := fun _ h => h
  have hbA : ¬ (fun q : Nat => s.heap.size ≤ q) b := Nat.not_le.mpr hbl
  refine lv_aload_n hx hb dL_law_930 rfl (lv_at hl 1 rfl) ?_
  refine lv_aload_n hx hb dL_law_931 rfl (lv_at hl 0 rfl) ?_
  refine lv_iload_n hx hb dL_law_932 rfl (lv_at hl 3 rfl) ?_
  refine lv_iconst (v := (1 : Int32)) hx hb dL_law_933 (by decide) ?_
  refine lv_iadd hx hb dL_law_934 ?_
  refine va_sld hx hb hX hbl hbA hS (sc_in hi hL 1 (by decide) (by decide)) dL_law_935 ?_
  refine hc_V (C := RX6) (ci := 2) (T := TX6) (N := 7) (As := [.int (xs (nI i + (1 : Int32)).toNatClampNeg)]) (rest := []) ⟨hx, hb, hml, hown, hts⟩ (ct_X6_cell l dC dI ad ca u (xs (nI i + (1 : Int32)).toNatClampNeg) hR.dW) (cwV 1 hts gL_law_X6_cell rfl rfl rfl (by decide +kernel) ⟨Nat.le_of_ble_eq_true rfl, Nat.le_of_ble_eq_true rfl⟩) (hw_part hP [0, 1, 2, 3, 4, 5, 6, 7, 8, 9] rfl) (hK.sub [0, 1, 2, 3, 4, 5] rfl) hNW rfl rfl rfl hl.1 rfl (Nat.le_of_ble_eq_true rfl) dL_law_936 ⟨Nat.le_of_ble_eq_true rfl, Nat.le_of_ble_eq_true rfl⟩ ?_
  refine lv_aload_n hx hb dL_law_939 rfl (lv_at hl 2 rfl) ?_
  refine lv_aload_n hx hb dL_law_940 rfl (lv_at hl 0 rfl) ?_
  refine lv_iload_n hx hb dL_law_941 rfl (lv_at hl 3 rfl) ?_
  refine lv_iconst (v := (1 : Int32)) hx hb dL_law_942 (by decide) ?_
  refine lv_iadd hx hb dL_law_943 ?_
  refine va_sld hx hb hX hbl hbA hS (sc_in hi hL 1 (by decide) (by decide)) dL_law_944 ?_
  refine hc_V (C := RX7) (ci := 3) (T := TX7) (N := 17) (As := [.int (xs (nI i + (1 : Int32)).toNatClampNeg)]) (rest := [.int (mX6_cell u (xs (nI i + (1 : Int32)).toNatClampNeg))]) ⟨hx, hb, hml, hown, hts⟩ (ct_X7_cell l dC dI bd cb v (xs (nI i + (1 : Int32)).toNatClampNeg) hR.hsx hR.hst hR.d7 hR.w0) (cwV 1 hts gL_law_X7_cell rfl rfl rfl (by decide +kernel) ⟨Nat.le_of_ble_eq_true rfl, Nat.le_of_ble_eq_true rfl⟩) (hw_part hP [10, 11, 12, 13, 14, 15, 16, 17] rfl) (hK.sub [6, 7, 8, 9, 10, 11, 12] rfl) hNW rfl rfl rfl hl.1 rfl (Nat.le_of_ble_eq_true rfl) dL_law_945 ⟨Nat.le_of_ble_eq_true rfl, Nat.le_of_ble_eq_true rfl⟩ ?_
  refine lv_icmp_eq (tgt := 1184) hx hb dL_law_948 (by decide) (fun c1 => ?_) (fun c1 => ?_)
  · exact kk u v _ _ hR hP hD hS
  · exact absurd (sim_cell hR (xs (nI i + (1 : Int32)).toNatClampNeg)) c1
end
