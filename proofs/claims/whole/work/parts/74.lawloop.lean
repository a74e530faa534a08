section
set_option maxHeartbeats 4000000 in
set_option maxRecDepth 100000 in
/-- THE LAW'S LOOP: at its head, with i ints read, the table and the model agree -/
theorem law_loop {p : Program} {e : Env} {s : State} {m : MethodId} {below : List Frame} {meth : Method} {c : Code} (l : Launch) {b L : Nat} {xs : Nat → Int32} (hL : L ≤ 2560) (C0 : lw_At p s m meth c b L xs) {dC : Nat → ClassId} {dI : Nat → Nat → Nat} {ad : Nat → Nat} {ca : Nat → ClassId} {bd : Nat → Nat} {cb : Nat → ClassId} (hNW : NW s) (hK : va_K (dC, dI) vwCl ([((ca 4), .long), ((ca 5), .long), ((ca 6), .long), ((ca 7), .int), ((ca 8), .long), ((ca 9), .long)] ++ [((cb 1), .long), ((cb 2), .int), ((cb 3), .long), ((cb 4), .boolean), ((cb 5), .int), ((cb 6), .long), ((cb 7), .int)]) s) :
    ∀ (n i : Nat), i ≤ L → L + 1 ≤ i + n → ∀ (u : TS) (v : MS) (H : Heap) (locs : List Loc), RR u v → va_P (dC, dI) vwCl (WT ad ca u ++ WM bd cb v) H → va_D (fun q : Nat => s.heap.size ≤ q) (WT ad ca u ++ WM bd cb v) → va_S (fun q : Nat => s.heap.size ≤ q) s.heap H locs → ∀ (ls : Array Slot), lv_has ls 4 [(0, .ref b), (1, .ref (ad 0)), (2, .ref (bd 0)), (3, .int (nI i))] → W p l e room_1 s m #[Value.ref b] below meth c H locs 18 182 (lw_Z below #[Value.ref b] s) (F0 m 18 ls []) := by
  obtain ⟨hx, hb, hr, hml, hown, hts, hX, hbl, hlocks, hgv⟩ := id C0
  have hA : ∀ q : Nat, s.heap.size ≤ q → (fun q : Nat => s.heap.size ≤ q) q := fun _ h => h
  have hbA : ¬ (fun q : Nat => s.heap.size ≤ q) b := Nat.not_le.mpr hbl
  intro n
  induction n with
  | zero =>
    intro i h1 h2
    exact absurd h2 (by omega)
  | succ n ih =>
    intro i hi0 hin u v H locs hR hP hD hS ls hl
    refine lv_iload_n hx hb dL_law_18 rfl (lv_at hl 3 rfl) ?_
    refine lv_aload_n hx hb dL_law_19 rfl (lv_at hl 0 rfl) ?_
    refine va_slen hx hb hX hbl hbA hS dL_law_20 ?_
    refine lv_iconst (v := (5 : Int32)) hx hb dL_law_21 (by decide) ?_
    refine lv_isub hx hb dL_law_22 ?_
    have hd : (Int32.ofNat L - (5 : Int32)).toInt = (L : Int) - 5 := by
      rw [Int32.toInt_sub, show (Int32.ofNat L).toInt = (L : Int) from nI_toInt (by omega), show (5 : Int32).toInt = 5 from rfl, Int.bmod_eq_of_le (by omega) (by omega)]
    have he : (nI i).toInt = (i : Int) := nI_toInt (by omega)
    refine lv_icmp_gt (tgt := 1190) hx hb dL_law_23 (by decide) (fun c1 => ?_) (fun c1 => ?_)
    · refine lv_iconst (v := 1) hx hb dL_law_1190 (by decide) ?_
      refine va_forget (fun q hq => hS.2.2 q hq) ?_
      exact lw_ret hx hb hr hlocks dL_law_1191
    · have hi : i + 5 ≤ L := by
        rw [Int32.lt_iff_toInt_lt, hd, he] at c1
        omega
      have K : ∀ (u : TS) (v : MS) (H : Heap) (locs : List Loc), RR u v → va_P (dC, dI) vwCl (WT ad ca u ++ WM bd cb v) H → va_D (fun q : Nat => s.heap.size ≤ q) (WT ad ca u ++ WM bd cb v) → va_S (fun q : Nat => s.heap.size ≤ q) s.heap H locs → W p l e room_1 s m #[Value.ref b] below meth c H locs 18 182 (lw_Z below #[Value.ref b] s) (F0 m 1184 ls []) := by
        intro u v H locs hR hP hD hS
        refine lv_iinc (v := nI (i + 5)) (lv' := [(3, .int (nI (i + 5))), (0, .ref b), (1, .ref (ad 0)), (2, .ref (bd 0))]) hx hb dL_law_1184 hl (k := 3) rfl (nI_add i 5) (by decide) rfl (fun ls hl => ?_)
        refine lv_goto (tgt := 18) hx hb dL_law_1187 (by decide) ?_
        exact ih (i + 5) hi (by omega) u v H locs hR hP hD hS ls (lv_sub hl [1, 2, 3, 0] rfl)
      refine lv_aload_n hx hb dL_law_26 rfl (lv_at hl 0 rfl) ?_
      refine lv_iload_n hx hb dL_law_27 rfl (lv_at hl 3 rfl) ?_
      refine va_sld hx hb hX hbl hbA hS (vp_in_nI (by omega) (by omega)) dL_law_28 ?_
      refine lv_bipush (v := (31 : Int32)) hx hb dL_law_29 (by decide) ?_
      refine lv_iand hx hb dL_law_31 ?_
      generalize (xs (nI i).toNatClampNeg &&& (31 : Int32)) = x
      by_cases h0 : x = (0 : Int32)
      · subst h0
        refine lv_tableIn (tgt := 156) hx hb dL_law_32 (by decide) (by decide) (off := 124) rfl (by decide) ?_
        exact lc_0 l hL C0 hi hR hNW hK hP hD hS hl K
      by_cases h1 : x = (1 : Int32)
      · subst h1
        refine lv_tableIn (tgt := 229) hx hb dL_law_32 (by decide) (by decide) (off := 197) rfl (by decide) ?_
        exact lc_1 l hL C0 hi hR hNW hK hP hD hS hl K
      by_cases h2 : x = (2 : Int32)
      · subst h2
        refine lv_tableIn (tgt := 322) hx hb dL_law_32 (by decide) (by decide) (off := 290) rfl (by decide) ?_
        exact lc_2 l hL C0 hi hR hNW hK hP hD hS hl K
      by_cases h3 : x = (3 : Int32)
      · subst h3
        refine lv_tableIn (tgt := 355) hx hb dL_law_32 (by decide) (by decide) (off := 323) rfl (by decide) ?_
        exact lc_3 l hL C0 hi hR hNW hK hP hD hS hl K
      by_cases h4 : x = (4 : Int32)
      · subst h4
        refine lv_tableIn (tgt := 418) hx hb dL_law_32 (by decide) (by decide) (off := 386) rfl (by decide) ?_
        exact lc_4 l hL C0 hi hR hNW hK hP hD hS hl K
      by_cases h5 : x = (5 : Int32)
      · subst h5
        refine lv_tableIn (tgt := 491) hx hb dL_law_32 (by decide) (by decide) (off := 459) rfl (by decide) ?_
        exact lc_5 l hL C0 hi hR hNW hK hP hD hS hl K
      by_cases h6 : x = (6 : Int32)
      · subst h6
        refine lv_tableIn (tgt := 524) hx hb dL_law_32 (by decide) (by decide) (off := 492) rfl (by decide) ?_
        exact lc_6 l hL C0 hi hR hNW hK hP hD hS hl K
      by_cases h7 : x = (7 : Int32)
      · subst h7
        refine lv_tableIn (tgt := 557) hx hb dL_law_32 (by decide) (by decide) (off := 525) rfl (by decide) ?_
        exact lc_7 l hL C0 hi hR hNW hK hP hD hS hl K
      by_cases h8 : x = (8 : Int32)
      · subst h8
        refine lv_tableIn (tgt := 600) hx hb dL_law_32 (by decide) (by decide) (off := 568) rfl (by decide) ?_
        exact lc_8 l hL C0 hi hR hNW hK hP hD hS hl K
      by_cases h9 : x = (9 : Int32)
      · subst h9
        refine lv_tableIn (tgt := 663) hx hb dL_law_32 (by decide) (by decide) (off := 631) rfl (by decide) ?_
        exact lc_9 l hL C0 hi hR hNW hK hP hD hS hl K
      by_cases h10 : x = (10 : Int32)
      · subst h10
        refine lv_tableIn (tgt := 726) hx hb dL_law_32 (by decide) (by decide) (off := 694) rfl (by decide) ?_
        exact lc_10 l hL C0 hi hR hNW hK hP hD hS hl K
      by_cases h11 : x = (11 : Int32)
      · subst h11
        refine lv_tableIn (tgt := 789) hx hb dL_law_32 (by decide) (by decide) (off := 757) rfl (by decide) ?_
        exact lc_11 l hL C0 hi hR hNW hK hP hD hS hl K
      by_cases h12 : x = (12 : Int32)
      · subst h12
        refine lv_tableIn (tgt := 802) hx hb dL_law_32 (by decide) (by decide) (off := 770) rfl (by decide) ?_
        exact lc_12 l hL C0 hi hR hNW hK hP hD hS hl K
      by_cases h13 : x = (13 : Int32)
      · subst h13
        refine lv_tableIn (tgt := 826) hx hb dL_law_32 (by decide) (by decide) (off := 794) rfl (by decide) ?_
        exact lc_13 l hL C0 hi hR hNW hK hP hD hS hl K
      by_cases h14 : x = (14 : Int32)
      · subst h14
        refine lv_tableIn (tgt := 849) hx hb dL_law_32 (by decide) (by decide) (off := 817) rfl (by decide) ?_
        exact lc_14 l hL C0 hi hR hNW hK hP hD hS hl K
      by_cases h15 : x = (15 : Int32)
      · subst h15
        refine lv_tableIn (tgt := 873) hx hb dL_law_32 (by decide) (by decide) (off := 841) rfl (by decide) ?_
        exact lc_15 l hL C0 hi hR hNW hK hP hD hS hl K
      by_cases h16 : x = (16 : Int32)
      · subst h16
        refine lv_tableIn (tgt := 896) hx hb dL_law_32 (by decide) (by decide) (off := 864) rfl (by decide) ?_
        exact lc_16 l hL C0 hi hR hNW hK hP hD hS hl K
      by_cases h17 : x = (17 : Int32)
      · subst h17
        refine lv_tableIn (tgt := 930) hx hb dL_law_32 (by decide) (by decide) (off := 898) rfl (by decide) ?_
        exact lc_17 l hL C0 hi hR hNW hK hP hD hS hl K
      by_cases h18 : x = (18 : Int32)
      · subst h18
        refine lv_tableIn (tgt := 953) hx hb dL_law_32 (by decide) (by decide) (off := 921) rfl (by decide) ?_
        exact lc_18 l hL C0 hi hR hNW hK hP hD hS hl K
      by_cases h19 : x = (19 : Int32)
      · subst h19
        refine lv_tableIn (tgt := 977) hx hb dL_law_32 (by decide) (by decide) (off := 945) rfl (by decide) ?_
        exact lc_19 l hL C0 hi hR hNW hK hP hD hS hl K
      by_cases h20 : x = (20 : Int32)
      · subst h20
        refine lv_tableIn (tgt := 1010) hx hb dL_law_32 (by decide) (by decide) (off := 978) rfl (by decide) ?_
        exact lc_20 l hL C0 hi hR hNW hK hP hD hS hl K
      by_cases h21 : x = (21 : Int32)
      · subst h21
        refine lv_tableIn (tgt := 1044) hx hb dL_law_32 (by decide) (by decide) (off := 1012) rfl (by decide) ?_
        exact lc_21 l hL C0 hi hR hNW hK hP hD hS hl K
      by_cases h22 : x = (22 : Int32)
      · subst h22
        refine lv_tableIn (tgt := 1068) hx hb dL_law_32 (by decide) (by decide) (off := 1036) rfl (by decide) ?_
        exact lc_22 l hL C0 hi hR hNW hK hP hD hS hl K
      by_cases h23 : x = (23 : Int32)
      · subst h23
        refine lv_tableIn (tgt := 1091) hx hb dL_law_32 (by decide) (by decide) (off := 1059) rfl (by decide) ?_
        exact lc_23 l hL C0 hi hR hNW hK hP hD hS hl K
      by_cases h24 : x = (24 : Int32)
      · subst h24
        refine lv_tableIn (tgt := 1114) hx hb dL_law_32 (by decide) (by decide) (off := 1082) rfl (by decide) ?_
        exact lc_24 l hL C0 hi hR hNW hK hP hD hS hl K
      by_cases h25 : x = (25 : Int32)
      · subst h25
        refine lv_tableIn (tgt := 1137) hx hb dL_law_32 (by decide) (by decide) (off := 1105) rfl (by decide) ?_
        exact lc_25 l hL C0 hi hR hNW hK hP hD hS hl K
      by_cases h26 : x = (26 : Int32)
      · subst h26
        refine lv_tableIn (tgt := 1161) hx hb dL_law_32 (by decide) (by decide) (off := 1129) rfl (by decide) ?_
        exact lc_26 l hL C0 hi hR hNW hK hP hD hS hl K
      have ne : ∀ k : Int32, ¬ x = k → x.toInt ≠ k.toInt := fun k h q => h (Int32.toInt_inj.mp q)
      have n0 : x.toInt ≠ 0 := ne (0 : Int32) h0
      have n1 : x.toInt ≠ 1 := ne (1 : Int32) h1
      have n2 : x.toInt ≠ 2 := ne (2 : Int32) h2
      have n3 : x.toInt ≠ 3 := ne (3 : Int32) h3
      have n4 : x.toInt ≠ 4 := ne (4 : Int32) h4
      have n5 : x.toInt ≠ 5 := ne (5 : Int32) h5
      have n6 : x.toInt ≠ 6 := ne (6 : Int32) h6
      have n7 : x.toInt ≠ 7 := ne (7 : Int32) h7
      have n8 : x.toInt ≠ 8 := ne (8 : Int32) h8
      have n9 : x.toInt ≠ 9 := ne (9 : Int32) h9
      have n10 : x.toInt ≠ 10 := ne (10 : Int32) h10
      have n11 : x.toInt ≠ 11 := ne (11 : Int32) h11
      have n12 : x.toInt ≠ 12 := ne (12 : Int32) h12
      have n13 : x.toInt ≠ 13 := ne (13 : Int32) h13
      have n14 : x.toInt ≠ 14 := ne (14 : Int32) h14
      have n15 : x.toInt ≠ 15 := ne (15 : Int32) h15
      have n16 : x.toInt ≠ 16 := ne (16 : Int32) h16
      have n17 : x.toInt ≠ 17 := ne (17 : Int32) h17
      have n18 : x.toInt ≠ 18 := ne (18 : Int32) h18
      have n19 : x.toInt ≠ 19 := ne (19 : Int32) h19
      have n20 : x.toInt ≠ 20 := ne (20 : Int32) h20
      have n21 : x.toInt ≠ 21 := ne (21 : Int32) h21
      have n22 : x.toInt ≠ 22 := ne (22 : Int32) h22
      have n23 : x.toInt ≠ 23 := ne (23 : Int32) h23
      have n24 : x.toInt ≠ 24 := ne (24 : Int32) h24
      have n25 : x.toInt ≠ 25 := ne (25 : Int32) h25
      have n26 : x.toInt ≠ 26 := ne (26 : Int32) h26
      refine lv_tableOut (tgt := 1184) hx hb dL_law_32 (by omega) (by decide) ?_
      exact K u v H locs hR hP hD hS
end
