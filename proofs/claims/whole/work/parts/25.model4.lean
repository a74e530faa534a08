def mX7_x (u : MS) (a0 : Int32) : Int64 := (if (mX7_isPoint a0) = 0 then (0 : Int64) else (u.1 a0.toNatClampNeg))
set_option maxHeartbeats 4000000 in
set_option maxRecDepth 100000 in
theorem ct_X7_x (l : Launch) (dC : Nat → ClassId) (dI : Nat → Nat → Nat) (bd : Nat → Nat) (cb : Nat → ClassId) (u : MS) (a0 : Int32) : Met l yX7_x wsX7_x { frames := 1, cells := 0, slots := 0, locals := 20 } (pR (dC, dI) vwCl [((cb 1), .long), ((cb 2), .int), ((cb 3), .long), ((cb 4), .boolean), ((cb 5), .int), ((cb 6), .long), ((cb 7), .int)] (WM bd cb u) [.ref (bd 0), .int a0]) (k2_QcV (.long (mX7_x u a0))) 0 0 (fun _ => False) := by
  refine Met.ofW (cc := cX7_x) (maxL := 2) (ret := (some .long)) (by decide) rfl ?_
  intro p e s m args below meth c s₁ B hml hv
  obtain ⟨rfl, hP, hK, hNW⟩ := hv
  have hx := B.exec
  have hb := B.bytes
  have hr := B.returns
  have hts := atoms_spec (ws := wsX7_x) B.pre
  have hown : s.vm.findClass RX7 = some m.cls := findClass_of_methodNamed B.named
  have hlocks := B.notSynchronized
  have hin7 : ∀ w ∈ wsX70, w ∈ wsX7_x := by decide +kernel
  have hl := lv_entry ([.ref (bd 0), .int a0]) (n := 2) (Nat.le_of_ble_eq_true rfl)
  rw [lg_entry_eq]
  generalize (lg_sl ([.ref (bd 0), .int a0]) ++ List.replicate (2 - (lg_sl ([.ref (bd 0), .int a0])).length) Slot.unset).toArray = ls at hl ⊢
  have hl : lv_has ls 2 [(0, .ref (bd 0)), (1, .int a0)] := hl
  refine lv_iload_n hx hb dX7_x_0 rfl (lv_at hl 1 rfl) ?_
  refine hc_S (As := [.int a0]) (rest := []) ⟨hx, hb, hml, hown, hts⟩ (ct_X7_isPoint l a0) (va_cwS 1 hts gX7_x_X7_isPoint rfl rfl rfl (by decide +kernel) ⟨Nat.le_of_ble_eq_true rfl, Nat.le_of_ble_eq_true rfl⟩) rfl hl.1 rfl (Nat.le_of_ble_eq_true rfl) dX7_x_1 ⟨Nat.le_of_ble_eq_true rfl, Nat.le_of_ble_eq_true rfl⟩ ?_
  refine lv_if_eq (tgt := 16) hx hb dX7_x_4 (by decide) (fun c_1 => ?_) (fun c_1 => ?_)
  · refine lv_lconst (v := (0 : Int64)) hx hb dX7_x_16 (by decide) ?_
    exact W.lret (v := (0 : Int64)) hx hb hr (fun t ht _ => ⟨by rw [mX7_x, if_pos c_1], ht⟩) (fun _ h => by cases h) dX7_x_17
  · refine lv_aload_n hx hb dX7_x_7 rfl (lv_at hl 0 rfl) ?_
    refine va_get (D := (dC, dI)) (ci := 3) (v := .ref (bd 1)) (C := RX7) (T := TX7) (N := 17) hx hb hts hin7 hown hK hP 0 rfl rfl 0 (by decide) (hts (.fieldLink RX7 7 "SnapTableModel" "xs" "[J") (by decide +kernel)) (fun _ h9 => h9) rfl dX7_x_8 ?_
    refine lv_iload_n hx hb dX7_x_11 rfl (lv_at hl 1 rfl) ?_
    refine va_lald hx hb hK hP 1 0 rfl rfl (by first | with_reducible assumption | with_reducible exact pt_in (by with_reducible assumption) | with_reducible exact ptm_in (by with_reducible assumption) | exact LU.vin (B := 8) hm (by decide) (by with_reducible assumption) (by decide) | exact LU.vin (B := 4) hm (by decide) (by with_reducible assumption) (by decide) | exact LU.vin (B := 16) hm (by decide) (by with_reducible assumption) (by decide) | exact vp_in_nI (n := 0) (by decide) (by decide) | with_reducible exact gdm_in (by with_reducible assumption) (by with_reducible assumption) | with_reducible exact gd_in (by with_reducible assumption) (by with_reducible assumption)) dX7_x_12 ?_
    refine lv_goto (tgt := 17) hx hb dX7_x_13 (by decide) ?_
    exact W.lret (v := (u.1 a0.toNatClampNeg)) hx hb hr (fun t ht _ => ⟨by rw [mX7_x, if_neg c_1], ht⟩) (fun _ h => by cases h) dX7_x_17

def mX7_y (u : MS) (a0 : Int32) : Int32 := (if (mX7_isPoint a0) = 0 then (0 : Int32) else (u.2.1 a0.toNatClampNeg))
set_option maxHeartbeats 4000000 in
set_option maxRecDepth 100000 in
theorem ct_X7_y (l : Launch) (dC : Nat → ClassId) (dI : Nat → Nat → Nat) (bd : Nat → Nat) (cb : Nat → ClassId) (u : MS) (a0 : Int32) : Met l yX7_y wsX7_y { frames := 1, cells := 0, slots := 0, locals := 20 } (pR (dC, dI) vwCl [((cb 1), .long), ((cb 2), .int), ((cb 3), .long), ((cb 4), .boolean), ((cb 5), .int), ((cb 6), .long), ((cb 7), .int)] (WM bd cb u) [.ref (bd 0), .int a0]) (k2_QcV (.int (mX7_y u a0))) 0 0 (fun _ => False) := by
  refine Met.ofW (cc := cX7_y) (maxL := 2) (ret := (some .int)) (by decide) rfl ?_
  intro p e s m args below meth c s₁ B hml hv
  obtain ⟨rfl, hP, hK, hNW⟩ := hv
  have hx := B.exec
  have hb := B.bytes
  have hr := B.returns
  have hts := atoms_spec (ws := wsX7_y) B.pre
  have hown : s.vm.findClass RX7 = some m.cls := findClass_of_methodNamed B.named
  have hlocks := B.notSynchronized
  have hin7 : ∀ w ∈ wsX70, w ∈ wsX7_y := by decide +kernel
  have hl := lv_entry ([.ref (bd 0), .int a0]) (n := 2) (Nat.le_of_ble_eq_true rfl)
  rw [lg_entry_eq]
  generalize (lg_sl ([.ref (bd 0), .int a0]) ++ List.replicate (2 - (lg_sl ([.ref (bd 0), .int a0])).length) Slot.unset).toArray = ls at hl ⊢
  have hl : lv_has ls 2 [(0, .ref (bd 0)), (1, .int a0)] := hl
  refine lv_iload_n hx hb dX7_y_0 rfl (lv_at hl 1 rfl) ?_
  refine hc_S (As := [.int a0]) (rest := []) ⟨hx, hb, hml, hown, hts⟩ (ct_X7_isPoint l a0) (va_cwS 1 hts gX7_y_X7_isPoint rfl rfl rfl (by decide +kernel) ⟨Nat.le_of_ble_eq_true rfl, Nat.le_of_ble_eq_true rfl⟩) rfl hl.1 rfl (Nat.le_of_ble_eq_true rfl) dX7_y_1 ⟨Nat.le_of_ble_eq_true rfl, Nat.le_of_ble_eq_true rfl⟩ ?_
  refine lv_if_eq (tgt := 16) hx hb dX7_y_4 (by decide) (fun c_1 => ?_) (fun c_1 => ?_)
  · refine lv_iconst (v := (0 : Int32)) hx hb dX7_y_16 (by decide) ?_
    exact W.iret (v := (0 : Int32)) hx hb hr (fun t ht _ => ⟨by rw [mX7_y, if_pos c_1], ht⟩) (fun _ h => by cases h) dX7_y_17
  · refine lv_aload_n hx hb dX7_y_7 rfl (lv_at hl 0 rfl) ?_
    refine va_get (D := (dC, dI)) (ci := 3) (v := .ref (bd 2)) (C := RX7) (T := TX7) (N := 17) hx hb hts hin7 hown hK hP 0 rfl rfl 1 (by decide) (hts (.fieldLink RX7 13 "SnapTableModel" "ys" "[I") (by decide +kernel)) (fun _ h9 => h9) rfl dX7_y_8 ?_
    refine lv_iload_n hx hb dX7_y_11 rfl (lv_at hl 1 rfl) ?_
    refine va_iald hx hb hK hP 2 1 rfl rfl (by first | with_reducible assumption | with_reducible exact pt_in (by with_reducible assumption) | with_reducible exact ptm_in (by with_reducible assumption) | exact LU.vin (B := 8) hm (by decide) (by with_reducible assumption) (by decide) | exact LU.vin (B := 4) hm (by decide) (by with_reducible assumption) (by decide) | exact LU.vin (B := 16) hm (by decide) (by with_reducible assumption) (by decide) | exact vp_in_nI (n := 0) (by decide) (by decide) | with_reducible exact gdm_in (by with_reducible assumption) (by with_reducible assumption) | with_reducible exact gd_in (by with_reducible assumption) (by with_reducible assumption)) dX7_y_12 ?_
    refine lv_goto (tgt := 17) hx hb dX7_y_13 (by decide) ?_
    exact W.iret (v := (u.2.1 a0.toNatClampNeg)) hx hb hr (fun t ht _ => ⟨by rw [mX7_y, if_neg c_1], ht⟩) (fun _ h => by cases h) dX7_y_17

def mX7_side (u : MS) (a0 : Int32) : Int64 := (if (mX7_isPoint a0) = 0 then (0 : Int64) else (if (lg_cmp (mX7_size (u.1 a0.toNatClampNeg)) (0 : Int64)) = 0 then (u.1 a0.toNatClampNeg) else ((4607182418800017408 : Int64) ||| ((u.1 a0.toNatClampNeg) &&& (-9223372036854775808 : Int64)))))
set_option maxHeartbeats 4000000 in
set_option maxRecDepth 100000 in
theorem ct_X7_side (l : Launch) (dC : Nat → ClassId) (dI : Nat → Nat → Nat) (bd : Nat → Nat) (cb : Nat → ClassId) (u : MS) (a0 : Int32) : Met l yX7_side wsX7_side { frames := 1, cells := 0, slots := 0, locals := 21 } (pR (dC, dI) vwCl [((cb 1), .long), ((cb 2), .int), ((cb 3), .long), ((cb 4), .boolean), ((cb 5), .int), ((cb 6), .long), ((cb 7), .int)] (WM bd cb u) [.ref (bd 0), .int a0]) (k2_QcV (.long (mX7_side u a0))) 0 0 (fun _ => False) := by
  refine Met.ofW (cc := cX7_side) (maxL := 2) (ret := (some .long)) (by decide) rfl ?_
  intro p e s m args below meth c s₁ B hml hv
  obtain ⟨rfl, hP, hK, hNW⟩ := hv
  have hx := B.exec
  have hb := B.bytes
  have hr := B.returns
  have hts := atoms_spec (ws := wsX7_side) B.pre
  have hown : s.vm.findClass RX7 = some m.cls := findClass_of_methodNamed B.named
  have hlocks := B.notSynchronized
  have hin7 : ∀ w ∈ wsX70, w ∈ wsX7_side := by decide +kernel
  have hl := lv_entry ([.ref (bd 0), .int a0]) (n := 2) (Nat.le_of_ble_eq_true rfl)
  rw [lg_entry_eq]
  generalize (lg_sl ([.ref (bd 0), .int a0]) ++ List.replicate (2 - (lg_sl ([.ref (bd 0), .int a0])).length) Slot.unset).toArray = ls at hl ⊢
  have hl : lv_has ls 2 [(0, .ref (bd 0)), (1, .int a0)] := hl
  refine lv_iload_n hx hb dX7_side_0 rfl (lv_at hl 1 rfl) ?_
  refine hc_S (As := [.int a0]) (rest := []) ⟨hx, hb, hml, hown, hts⟩ (ct_X7_isPoint l a0) (va_cwS 1 hts gX7_side_X7_isPoint rfl rfl rfl (by decide +kernel) ⟨Nat.le_of_ble_eq_true rfl, Nat.le_of_ble_eq_true rfl⟩) rfl hl.1 rfl (Nat.le_of_ble_eq_true rfl) dX7_side_1 ⟨Nat.le_of_ble_eq_true rfl, Nat.le_of_ble_eq_true rfl⟩ ?_
  refine lv_if_ne (tgt := 9) hx hb dX7_side_4 (by decide) (fun c_1 => ?_) (fun c_1 => ?_)
  · refine lv_aload_n hx hb dX7_side_9 rfl (lv_at hl 0 rfl) ?_
    refine va_get (D := (dC, dI)) (ci := 3) (v := .ref (bd 1)) (C := RX7) (T := TX7) (N := 17) hx hb hts hin7 hown hK hP 0 rfl rfl 0 (by decide) (hts (.fieldLink RX7 7 "SnapTableModel" "xs" "[J") (by decide +kernel)) (fun _ h9 => h9) rfl dX7_side_10 ?_
    refine lv_iload_n hx hb dX7_side_13 rfl (lv_at hl 1 rfl) ?_
    refine va_lald hx hb hK hP 1 0 rfl rfl (by first | with_reducible assumption | with_reducible exact pt_in (by with_reducible assumption) | with_reducible exact ptm_in (by with_reducible assumption) | exact LU.vin (B := 8) hm (by decide) (by with_reducible assumption) (by decide) | exact LU.vin (B := 4) hm (by decide) (by with_reducible assumption) (by decide) | exact LU.vin (B := 16) hm (by decide) (by with_reducible assumption) (by decide) | exact vp_in_nI (n := 0) (by decide) (by decide) | with_reducible exact gdm_in (by with_reducible assumption) (by with_reducible assumption) | with_reducible exact gd_in (by with_reducible assumption) (by with_reducible assumption)) dX7_side_14 ?_
    refine hc_S (As := [.long (u.1 a0.toNatClampNeg)]) (rest := []) ⟨hx, hb, hml, hown, hts⟩ (ct_X7_size l (u.1 a0.toNatClampNeg)) (va_cwS 1 hts gX7_side_X7_size rfl rfl rfl (by decide +kernel) ⟨Nat.le_of_ble_eq_true rfl, Nat.le_of_ble_eq_true rfl⟩) rfl hl.1 rfl (Nat.le_of_ble_eq_true rfl) dX7_side_15 ⟨Nat.le_of_ble_eq_true rfl, Nat.le_of_ble_eq_true rfl⟩ ?_
    refine lv_lconst (v := (0 : Int64)) hx hb dX7_side_18 (by decide) ?_
    refine W.lcmp hx hb dX7_side_19 ?_
    refine lv_if_ne (tgt := 32) hx hb dX7_side_20 (by decide) (fun c_2 => ?_) (fun c_2 => ?_)
    · refine lv_ldc2 (v := (4607182418800017408 : Int64)) hx hb hown (hts (.constantLong RX7 28 (4607182418800017408)) (by decide +kernel)) dX7_side_32 ?_
      refine lv_aload_n hx hb dX7_side_35 rfl (lv_at hl 0 rfl) ?_
      refine va_get (D := (dC, dI)) (ci := 3) (v := .ref (bd 1)) (C := RX7) (T := TX7) (N := 17) hx hb hts hin7 hown hK hP 0 rfl rfl 0 (by decide) (hts (.fieldLink RX7 7 "SnapTableModel" "xs" "[J") (by decide +kernel)) (fun _ h9 => h9) rfl dX7_side_36 ?_
      refine lv_iload_n hx hb dX7_side_39 rfl (lv_at hl 1 rfl) ?_
      refine va_lald hx hb hK hP 1 0 rfl rfl (by first | with_reducible assumption | with_reducible exact pt_in (by with_reducible assumption) | with_reducible exact ptm_in (by with_reducible assumption) | exact LU.vin (B := 8) hm (by decide) (by with_reducible assumption) (by decide) | exact LU.vin (B := 4) hm (by decide) (by with_reducible assumption) (by decide) | exact LU.vin (B := 16) hm (by decide) (by with_reducible assumption) (by decide) | exact vp_in_nI (n := 0) (by decide) (by decide) | with_reducible exact gdm_in (by with_reducible assumption) (by with_reducible assumption) | with_reducible exact gd_in (by with_reducible assumption) (by with_reducible assumption)) dX7_side_40 ?_
      refine lv_ldc2 (v := (-9223372036854775808 : Int64)) hx hb hown (hts (.constantLong RX7 83 (-9223372036854775808)) (by decide +kernel)) dX7_side_41 ?_
      refine lv_land hx hb dX7_side_44 ?_
      refine lv_lor hx hb dX7_side_45 ?_
      exact W.lret (v := ((4607182418800017408 : Int64) ||| ((u.1 a0.toNatClampNeg) &&& (-9223372036854775808 : Int64)))) hx hb hr (fun t ht _ => ⟨by rw [mX7_side, if_neg c_1, if_neg c_2], ht⟩) (fun _ h => by cases h) dX7_side_46
    · refine lv_aload_n hx hb dX7_side_23 rfl (lv_at hl 0 rfl) ?_
      refine va_get (D := (dC, dI)) (ci := 3) (v := .ref (bd 1)) (C := RX7) (T := TX7) (N := 17) hx hb hts hin7 hown hK hP 0 rfl rfl 0 (by decide) (hts (.fieldLink RX7 7 "SnapTableModel" "xs" "[J") (by decide +kernel)) (fun _ h9 => h9) rfl dX7_side_24 ?_
      refine lv_iload_n hx hb dX7_side_27 rfl (lv_at hl 1 rfl) ?_
      refine va_lald hx hb hK hP 1 0 rfl rfl (by first | with_reducible assumption | with_reducible exact pt_in (by with_reducible assumption) | with_reducible exact ptm_in (by with_reducible assumption) | exact LU.vin (B := 8) hm (by decide) (by with_reducible assumption) (by decide) | exact LU.vin (B := 4) hm (by decide) (by with_reducible assumption) (by decide) | exact LU.vin (B := 16) hm (by decide) (by with_reducible assumption) (by decide) | exact vp_in_nI (n := 0) (by decide) (by decide) | with_reducible exact gdm_in (by with_reducible assumption) (by with_reducible assumption) | with_reducible exact gd_in (by with_reducible assumption) (by with_reducible assumption)) dX7_side_28 ?_
      refine lv_goto (tgt := 46) hx hb dX7_side_29 (by decide) ?_
      exact W.lret (v := (u.1 a0.toNatClampNeg)) hx hb hr (fun t ht _ => ⟨by rw [mX7_side, if_neg c_1, if_pos c_2], ht⟩) (fun _ h => by cases h) dX7_side_46
  · refine lv_lconst (v := (0 : Int64)) hx hb dX7_side_7 (by decide) ?_
    exact W.lret (v := (0 : Int64)) hx hb hr (fun t ht _ => ⟨by rw [mX7_side, if_pos c_1], ht⟩) (fun _ h => by cases h) dX7_side_8

def mX7_lift (u : MS) (a0 : Int32) : Int32 := (if (mX7_isPoint a0) = 0 then (0 : Int32) else (if (mX7_size4 (u.2.1 a0.toNatClampNeg)) = 0 then (u.2.1 a0.toNatClampNeg) else ((1065353216 : Int32) ||| ((u.2.1 a0.toNatClampNeg) &&& (-2147483648 : Int32)))))
set_option maxHeartbeats 4000000 in
set_option maxRecDepth 100000 in
theorem ct_X7_lift (l : Launch) (dC : Nat → ClassId) (dI : Nat → Nat → Nat) (bd : Nat → Nat) (cb : Nat → ClassId) (u : MS) (a0 : Int32) : Met l yX7_lift wsX7_lift { frames := 1, cells := 0, slots := 0, locals := 20 } (pR (dC, dI) vwCl [((cb 1), .long), ((cb 2), .int), ((cb 3), .long), ((cb 4), .boolean), ((cb 5), .int), ((cb 6), .long), ((cb 7), .int)] (WM bd cb u) [.ref (bd 0), .int a0]) (k2_QcV (.int (mX7_lift u a0))) 0 0 (fun _ => False) := by
  refine Met.ofW (cc := cX7_lift) (maxL := 2) (ret := (some .int)) (by decide) rfl ?_
  intro p e s m args below meth c s₁ B hml hv
  obtain ⟨rfl, hP, hK, hNW⟩ := hv
  have hx := B.exec
  have hb := B.bytes
  have hr := B.returns
  have hts := atoms_spec (ws := wsX7_lift) B.pre
  have hown : s.vm.findClass RX7 = some m.cls := findClass_of_methodNamed B.named
  have hlocks := B.notSynchronized
  have hin7 : ∀ w ∈ wsX70, w ∈ wsX7_lift := by decide +kernel
  have hl := lv_entry ([.ref (bd 0), .int a0]) (n := 2) (Nat.le_of_ble_eq_true rfl)
  rw [lg_entry_eq]
  generalize (lg_sl ([.ref (bd 0), .int a0]) ++ List.replicate (2 - (lg_sl ([.ref (bd 0), .int a0])).length) Slot.unset).toArray = ls at hl ⊢
  have hl : lv_has ls 2 [(0, .ref (bd 0)), (1, .int a0)] := hl
  refine lv_iload_n hx hb dX7_lift_0 rfl (lv_at hl 1 rfl) ?_
  refine hc_S (As := [.int a0]) (rest := []) ⟨hx, hb, hml, hown, hts⟩ (ct_X7_isPoint l a0) (va_cwS 1 hts gX7_lift_X7_isPoint rfl rfl rfl (by decide +kernel) ⟨Nat.le_of_ble_eq_true rfl, Nat.le_of_ble_eq_true rfl⟩) rfl hl.1 rfl (Nat.le_of_ble_eq_true rfl) dX7_lift_1 ⟨Nat.le_of_ble_eq_true rfl, Nat.le_of_ble_eq_true rfl⟩ ?_
  refine lv_if_ne (tgt := 9) hx hb dX7_lift_4 (by decide) (fun c_1 => ?_) (fun c_1 => ?_)
  · refine lv_aload_n hx hb dX7_lift_9 rfl (lv_at hl 0 rfl) ?_
    refine va_get (D := (dC, dI)) (ci := 3) (v := .ref (bd 2)) (C := RX7) (T := TX7) (N := 17) hx hb hts hin7 hown hK hP 0 rfl rfl 1 (by decide) (hts (.fieldLink RX7 13 "SnapTableModel" "ys" "[I") (by decide +kernel)) (fun _ h9 => h9) rfl dX7_lift_10 ?_
    refine lv_iload_n hx hb dX7_lift_13 rfl (lv_at hl 1 rfl) ?_
    refine va_iald hx hb hK hP 2 1 rfl rfl (by first | with_reducible assumption | with_reducible exact pt_in (by with_reducible assumption) | with_reducible exact ptm_in (by with_reducible assumption) | exact LU.vin (B := 8) hm (by decide) (by with_reducible assumption) (by decide) | exact LU.vin (B := 4) hm (by decide) (by with_reducible assumption) (by decide) | exact LU.vin (B := 16) hm (by decide) (by with_reducible assumption) (by decide) | exact vp_in_nI (n := 0) (by decide) (by decide) | with_reducible exact gdm_in (by with_reducible assumption) (by with_reducible assumption) | with_reducible exact gd_in (by with_reducible assumption) (by with_reducible assumption)) dX7_lift_14 ?_
    refine hc_S (As := [.int (u.2.1 a0.toNatClampNeg)]) (rest := []) ⟨hx, hb, hml, hown, hts⟩ (ct_X7_size4 l (u.2.1 a0.toNatClampNeg)) (va_cwS 1 hts gX7_lift_X7_size4 rfl rfl rfl (by decide +kernel) ⟨Nat.le_of_ble_eq_true rfl, Nat.le_of_ble_eq_true rfl⟩) rfl hl.1 rfl (Nat.le_of_ble_eq_true rfl) dX7_lift_15 ⟨Nat.le_of_ble_eq_true rfl, Nat.le_of_ble_eq_true rfl⟩ ?_
    refine lv_if_ne (tgt := 30) hx hb dX7_lift_18 (by decide) (fun c_2 => ?_) (fun c_2 => ?_)
    · refine lv_ldc (v := (1065353216 : Int32)) hx hb hown (hts (.constant RX7 42 (1065353216)) (by decide +kernel)) dX7_lift_30 ?_
      refine lv_aload_n hx hb dX7_lift_32 rfl (lv_at hl 0 rfl) ?_
      refine va_get (D := (dC, dI)) (ci := 3) (v := .ref (bd 2)) (C := RX7) (T := TX7) (N := 17) hx hb hts hin7 hown hK hP 0 rfl rfl 1 (by decide) (hts (.fieldLink RX7 13 "SnapTableModel" "ys" "[I") (by decide +kernel)) (fun _ h9 => h9) rfl dX7_lift_33 ?_
      refine lv_iload_n hx hb dX7_lift_36 rfl (lv_at hl 1 rfl) ?_
      refine va_iald hx hb hK hP 2 1 rfl rfl (by first | with_reducible assumption | with_reducible exact pt_in (by with_reducible assumption) | with_reducible exact ptm_in (by with_reducible assumption) | exact LU.vin (B := 8) hm (by decide) (by with_reducible assumption) (by decide) | exact LU.vin (B := 4) hm (by decide) (by with_reducible assumption) (by decide) | exact LU.vin (B := 16) hm (by decide) (by with_reducible assumption) (by decide) | exact vp_in_nI (n := 0) (by decide) (by decide) | with_reducible exact gdm_in (by with_reducible assumption) (by with_reducible assumption) | with_reducible exact gd_in (by with_reducible assumption) (by with_reducible assumption)) dX7_lift_37 ?_
      refine lv_ldc (v := (-2147483648 : Int32)) hx hb hown (hts (.constant RX7 98 (-2147483648)) (by decide +kernel)) dX7_lift_38 ?_
      refine lv_iand hx hb dX7_lift_40 ?_
      refine lv_ior hx hb dX7_lift_41 ?_
      exact W.iret (v := ((1065353216 : Int32) ||| ((u.2.1 a0.toNatClampNeg) &&& (-2147483648 : Int32)))) hx hb hr (fun t ht _ => ⟨by rw [mX7_lift, if_neg c_1, if_neg c_2], ht⟩) (fun _ h => by cases h) dX7_lift_42
    · refine lv_aload_n hx hb dX7_lift_21 rfl (lv_at hl 0 rfl) ?_
      refine va_get (D := (dC, dI)) (ci := 3) (v := .ref (bd 2)) (C := RX7) (T := TX7) (N := 17) hx hb hts hin7 hown hK hP 0 rfl rfl 1 (by decide) (hts (.fieldLink RX7 13 "SnapTableModel" "ys" "[I") (by decide +kernel)) (fun _ h9 => h9) rfl dX7_lift_22 ?_
      refine lv_iload_n hx hb dX7_lift_25 rfl (lv_at hl 1 rfl) ?_
      refine va_iald hx hb hK hP 2 1 rfl rfl (by first | with_reducible assumption | with_reducible exact pt_in (by with_reducible assumption) | with_reducible exact ptm_in (by with_reducible assumption) | exact LU.vin (B := 8) hm (by decide) (by with_reducible assumption) (by decide) | exact LU.vin (B := 4) hm (by decide) (by with_reducible assumption) (by decide) | exact LU.vin (B := 16) hm (by decide) (by with_reducible assumption) (by decide) | exact vp_in_nI (n := 0) (by decide) (by decide) | with_reducible exact gdm_in (by with_reducible assumption) (by with_reducible assumption) | with_reducible exact gd_in (by with_reducible assumption) (by with_reducible assumption)) dX7_lift_26 ?_
      refine lv_goto (tgt := 42) hx hb dX7_lift_27 (by decide) ?_
      exact W.iret (v := (u.2.1 a0.toNatClampNeg)) hx hb hr (fun t ht _ => ⟨by rw [mX7_lift, if_neg c_1, if_pos c_2], ht⟩) (fun _ h => by cases h) dX7_lift_42
  · refine lv_iconst (v := (0 : Int32)) hx hb dX7_lift_7 (by decide) ?_
    exact W.iret (v := (0 : Int32)) hx hb hr (fun t ht _ => ⟨by rw [mX7_lift, if_pos c_1], ht⟩) (fun _ h => by cases h) dX7_lift_8

def mX7_count (u : MS) (a0 : Int32) : Int32 := (if a0 = 0 then u.2.2.2.2.2.2.2.2.2.2.2.2.2.2.1 else (if a0 = (1 : Int32) then u.2.2.2.2.2.2.2.2.2.2.2.2.2.2.2.1 else (if a0 = (2 : Int32) then u.2.2.2.2.2.2.2.2.2.2.2.2.2.2.2.2 else (if a0 = (3 : Int32) then u.2.2.2.2.2.2.2.2.2.2.2.2.2.1 else (-1 : Int32)))))
set_option maxHeartbeats 4000000 in
set_option maxRecDepth 100000 in
theorem ct_X7_count (l : Launch) (dC : Nat → ClassId) (dI : Nat → Nat → Nat) (bd : Nat → Nat) (cb : Nat → ClassId) (u : MS) (a0 : Int32) : Met l yX7_count wsX7_count { frames := 0, cells := 0, slots := 0, locals := 0 } (pR (dC, dI) vwCl [((cb 1), .long), ((cb 2), .int), ((cb 3), .long), ((cb 4), .boolean), ((cb 5), .int), ((cb 6), .long), ((cb 7), .int)] (WM bd cb u) [.ref (bd 0), .int a0]) (k2_QcV (.int (mX7_count u a0))) 0 0 (fun _ => False) := by
  refine Met.ofW (cc := cX7_count) (maxL := 2) (ret := (some .int)) (by decide) rfl ?_
  intro p e s m args below meth c s₁ B hml hv
  obtain ⟨rfl, hP, hK, hNW⟩ := hv
  have hx := B.exec
  have hb := B.bytes
  have hr := B.returns
  have hts := atoms_spec (ws := wsX7_count) B.pre
  have hown : s.vm.findClass RX7 = some m.cls := findClass_of_methodNamed B.named
  have hlocks := B.notSynchronized
  have hin7 : ∀ w ∈ wsX70, w ∈ wsX7_count := by decide +kernel
  have hl := lv_entry ([.ref (bd 0), .int a0]) (n := 2) (Nat.le_of_ble_eq_true rfl)
  rw [lg_entry_eq]
  generalize (lg_sl ([.ref (bd 0), .int a0]) ++ List.replicate (2 - (lg_sl ([.ref (bd 0), .int a0])).length) Slot.unset).toArray = ls at hl ⊢
  have hl : lv_has ls 2 [(0, .ref (bd 0)), (1, .int a0)] := hl
  refine lv_iload_n hx hb dX7_count_0 rfl (lv_at hl 1 rfl) ?_
  refine lv_if_ne (tgt := 11) hx hb dX7_count_1 (by decide) (fun c_1 => ?_) (fun c_1 => ?_)
  · refine lv_iload_n hx hb dX7_count_11 rfl (lv_at hl 1 rfl) ?_
    refine lv_iconst (v := (1 : Int32)) hx hb dX7_count_12 (by decide) ?_
    refine lv_icmp_ne (tgt := 23) hx hb dX7_count_13 (by decide) (fun c_2 => ?_) (fun c_2 => ?_)
    · refine lv_iload_n hx hb dX7_count_23 rfl (lv_at hl 1 rfl) ?_
      refine lv_iconst (v := (2 : Int32)) hx hb dX7_count_24 (by decide) ?_
      refine lv_icmp_ne (tgt := 35) hx hb dX7_count_25 (by decide) (fun c_3 => ?_) (fun c_3 => ?_)
      · refine lv_iload_n hx hb dX7_count_35 rfl (lv_at hl 1 rfl) ?_
        refine lv_iconst (v := (3 : Int32)) hx hb dX7_count_36 (by decide) ?_
        refine lv_icmp_ne (tgt := 47) hx hb dX7_count_37 (by decide) (fun c_4 => ?_) (fun c_4 => ?_)
        · refine lv_iconst (v := (-1 : Int32)) hx hb dX7_count_47 (by decide) ?_
          exact W.iret (v := (-1 : Int32)) hx hb hr (fun t ht _ => ⟨by rw [mX7_count, if_neg c_1, if_neg c_2, if_neg c_3, if_neg c_4], ht⟩) (fun _ h => by cases h) dX7_count_48
        · refine lv_aload_n hx hb dX7_count_40 rfl (lv_at hl 0 rfl) ?_
          refine va_get (D := (dC, dI)) (ci := 3) (v := .int u.2.2.2.2.2.2.2.2.2.2.2.2.2.1) (C := RX7) (T := TX7) (N := 17) hx hb hts hin7 hown hK hP 0 rfl rfl 13 (by decide) (hts (.fieldLink RX7 139 "SnapTableModel" "trail" "I") (by decide +kernel)) (fun _ h9 => h9) rfl dX7_count_41 ?_
          refine lv_goto (tgt := 48) hx hb dX7_count_44 (by decide) ?_
          exact W.iret (v := u.2.2.2.2.2.2.2.2.2.2.2.2.2.1) hx hb hr (fun t ht _ => ⟨by rw [mX7_count, if_neg c_1, if_neg c_2, if_neg c_3, if_pos c_4], ht⟩) (fun _ h => by cases h) dX7_count_48
      · refine lv_aload_n hx hb dX7_count_28 rfl (lv_at hl 0 rfl) ?_
        refine va_get (D := (dC, dI)) (ci := 3) (v := .int u.2.2.2.2.2.2.2.2.2.2.2.2.2.2.2.2) (C := RX7) (T := TX7) (N := 17) hx hb hts hin7 hown hK hP 0 rfl rfl 16 (by decide) (hts (.fieldLink RX7 163 "SnapTableModel" "met" "I") (by decide +kernel)) (fun _ h9 => h9) rfl dX7_count_29 ?_
        refine lv_goto (tgt := 48) hx hb dX7_count_32 (by decide) ?_
        exact W.iret (v := u.2.2.2.2.2.2.2.2.2.2.2.2.2.2.2.2) hx hb hr (fun t ht _ => ⟨by rw [mX7_count, if_neg c_1, if_neg c_2, if_pos c_3], ht⟩) (fun _ h => by cases h) dX7_count_48
    · refine lv_aload_n hx hb dX7_count_16 rfl (lv_at hl 0 rfl) ?_
      refine va_get (D := (dC, dI)) (ci := 3) (v := .int u.2.2.2.2.2.2.2.2.2.2.2.2.2.2.2.1) (C := RX7) (T := TX7) (N := 17) hx hb hts hin7 hown hK hP 0 rfl rfl 15 (by decide) (hts (.fieldLink RX7 119 "SnapTableModel" "refused" "I") (by decide +kernel)) (fun _ h9 => h9) rfl dX7_count_17 ?_
      refine lv_goto (tgt := 48) hx hb dX7_count_20 (by decide) ?_
      exact W.iret (v := u.2.2.2.2.2.2.2.2.2.2.2.2.2.2.2.1) hx hb hr (fun t ht _ => ⟨by rw [mX7_count, if_neg c_1, if_pos c_2], ht⟩) (fun _ h => by cases h) dX7_count_48
  · refine lv_aload_n hx hb dX7_count_4 rfl (lv_at hl 0 rfl) ?_
    refine va_get (D := (dC, dI)) (ci := 3) (v := .int u.2.2.2.2.2.2.2.2.2.2.2.2.2.2.1) (C := RX7) (T := TX7) (N := 17) hx hb hts hin7 hown hK hP 0 rfl rfl 14 (by decide) (hts (.fieldLink RX7 122 "SnapTableModel" "done" "I") (by decide +kernel)) (fun _ h9 => h9) rfl dX7_count_5 ?_
    refine lv_goto (tgt := 48) hx hb dX7_count_8 (by decide) ?_
    exact W.iret (v := u.2.2.2.2.2.2.2.2.2.2.2.2.2.2.1) hx hb hr (fun t ht _ => ⟨by rw [mX7_count, if_pos c_1], ht⟩) (fun _ h => by cases h) dX7_count_48

def mX7_edge_L (u : MS) (a0 : Int32) : Nat → Int64 → Int32 → Int64
  | 0, _, _ => default
  | n + 1, w, i => (if (8 : Int32) ≤ i then w else (if a0 = 0 then (mX7_edge_L u a0 n (mX7_greater w (u.1 i.toNatClampNeg)) (i + 1)) else (mX7_edge_L u a0 n (mX7_lesser w (u.1 i.toNatClampNeg)) (i + 1))))
def mX7_edge (u : MS) (a0 : Int32) : Int64 := (if a0 < 0 then (0 : Int64) else (if a0 ≤ (1 : Int32) then (mX7_edge_L u a0 8 (u.1 (0 : Int32).toNatClampNeg) (1 : Int32)) else (0 : Int64)))
set_option maxHeartbeats 4000000 in
set_option maxRecDepth 100000 in
theorem ct_X7_edge (l : Launch) (dC : Nat → ClassId) (dI : Nat → Nat → Nat) (bd : Nat → Nat) (cb : Nat → ClassId) (u : MS) (a0 : Int32) : Met l yX7_edge wsX7_edge { frames := 3, cells := 0, slots := 0, locals := 65 } (pR (dC, dI) vwCl [((cb 1), .long), ((cb 2), .int), ((cb 3), .long), ((cb 4), .boolean), ((cb 5), .int), ((cb 6), .long), ((cb 7), .int)] (WM bd cb u) [.ref (bd 0), .int a0]) (k2_QcV (.long (mX7_edge u a0))) 0 0 (fun _ => False) := by
  refine Met.ofW (cc := cX7_edge) (maxL := 5) (ret := (some .long)) (by decide) rfl ?_
  intro p e s m args below meth c s₁ B hml hv
  obtain ⟨rfl, hP, hK, hNW⟩ := hv
  have hx := B.exec
  have hb := B.bytes
  have hr := B.returns
  have hts := atoms_spec (ws := wsX7_edge) B.pre
  have hown : s.vm.findClass RX7 = some m.cls := findClass_of_methodNamed B.named
  have hlocks := B.notSynchronized
  have hin7 : ∀ w ∈ wsX70, w ∈ wsX7_edge := by decide +kernel
  have hl := lv_entry ([.ref (bd 0), .int a0]) (n := 5) (Nat.le_of_ble_eq_true rfl)
  rw [lg_entry_eq]
  generalize (lg_sl ([.ref (bd 0), .int a0]) ++ List.replicate (5 - (lg_sl ([.ref (bd 0), .int a0])).length) Slot.unset).toArray = ls at hl ⊢
  have hl : lv_has ls 5 [(0, .ref (bd 0)), (1, .int a0)] := hl
  refine lv_iload_n hx hb dX7_edge_0 rfl (lv_at hl 1 rfl) ?_
  refine lv_if_lt (tgt := 9) hx hb dX7_edge_1 (by decide) (fun c_1 => ?_) (fun c_1 => ?_)
  · refine lv_lconst (v := (0 : Int64)) hx hb dX7_edge_9 (by decide) ?_
    exact W.lret (v := (0 : Int64)) hx hb hr (fun t ht _ => ⟨by rw [mX7_edge, if_pos c_1], ht⟩) (fun _ h => by cases h) dX7_edge_10
  · refine lv_iload_n hx hb dX7_edge_4 rfl (lv_at hl 1 rfl) ?_
    refine lv_iconst (v := (1 : Int32)) hx hb dX7_edge_5 (by decide) ?_
    refine lv_icmp_le (tgt := 11) hx hb dX7_edge_6 (by decide) (fun c_2 => ?_) (fun c_2 => ?_)
    · refine lv_aload_n hx hb dX7_edge_11 rfl (lv_at hl 0 rfl) ?_
      refine va_get (D := (dC, dI)) (ci := 3) (v := .ref (bd 1)) (C := RX7) (T := TX7) (N := 17) hx hb hts hin7 hown hK hP 0 rfl rfl 0 (by decide) (hts (.fieldLink RX7 7 "SnapTableModel" "xs" "[J") (by decide +kernel)) (fun _ h9 => h9) rfl dX7_edge_12 ?_
      refine lv_iconst (v := (0 : Int32)) hx hb dX7_edge_15 (by decide) ?_
      refine va_lald hx hb hK hP 1 0 rfl rfl (by first | with_reducible assumption | with_reducible exact pt_in (by with_reducible assumption) | with_reducible exact ptm_in (by with_reducible assumption) | exact LU.vin (B := 8) hm (by decide) (by with_reducible assumption) (by decide) | exact LU.vin (B := 4) hm (by decide) (by with_reducible assumption) (by decide) | exact LU.vin (B := 16) hm (by decide) (by with_reducible assumption) (by decide) | exact vp_in_nI (n := 0) (by decide) (by decide) | with_reducible exact gdm_in (by with_reducible assumption) (by with_reducible assumption) | with_reducible exact gd_in (by with_reducible assumption) (by with_reducible assumption)) dX7_edge_16 ?_
      refine lv_lstore_n (lv' := [(2, .long (u.1 (0 : Int32).toNatClampNeg)), (0, .ref (bd 0)), (1, .int a0)]) hx hb dX7_edge_17 rfl hl (by decide) rfl (fun ls hl => ?_)
      refine lv_iconst (v := (1 : Int32)) hx hb dX7_edge_18 (by decide) ?_
      refine lv_istore (lv' := [(4, .int (1 : Int32)), (2, .long (u.1 (0 : Int32).toNatClampNeg)), (0, .ref (bd 0)), (1, .int a0)]) hx hb dX7_edge_19 hl (by decide) rfl (fun ls hl => ?_)
      have loop : ∀ (n : Nat) (w : Int64) (i : Int32) (ls : Array Slot), LU 8 n i → mX7_edge_L u a0 n w i = mX7_edge u a0 → lv_has ls 5 [(2, .long w), (4, .int i), (0, .ref (bd 0)), (1, .int a0)] → W p l e (headSpec wsX7_edge { frames := 3, cells := 0, slots := 0, locals := 65 }).room s m ([.ref (bd 0), .int a0] : List Value).toArray below meth c s.heap [] 0 0 (MQ below (k2_QcV (.long (mX7_edge u a0))) ([.ref (bd 0), .int a0] : List Value).toArray s 0 0 (fun _ => False)) (F0 m 21 ls []) := by
        intro n
        induction n with
        | zero => intro w i ls hm; exact absurd hm (fun h => h.z)
        | succ n ih =>
          intro w i ls hm  heq hl
          refine lv_iload hx hb dX7_edge_21 (lv_at hl 1 rfl) ?_
          refine lv_bipush (v := (8 : Int32)) hx hb dX7_edge_23 (by decide) ?_
          refine lv_icmp_ge (tgt := 64) hx hb dX7_edge_25 (by decide) (fun c_3 => ?_) (fun c_3 => ?_)
          · refine lv_lload_n hx hb dX7_edge_64 rfl (lv_at hl 0 rfl) ?_
            exact W.lret (v := w) hx hb hr (fun t ht _ => ⟨by rw [← heq, mX7_edge_L, if_pos c_3], ht⟩) (fun _ h => by cases h) dX7_edge_65
          · refine lv_iload_n hx hb dX7_edge_28 rfl (lv_at hl 3 rfl) ?_
            refine lv_if_ne (tgt := 46) hx hb dX7_edge_29 (by decide) (fun c_4 => ?_) (fun c_4 => ?_)
            · refine lv_lload_n hx hb dX7_edge_46 rfl (lv_at hl 0 rfl) ?_
              refine lv_aload_n hx hb dX7_edge_47 rfl (lv_at hl 2 rfl) ?_
              refine va_get (D := (dC, dI)) (ci := 3) (v := .ref (bd 1)) (C := RX7) (T := TX7) (N := 17) hx hb hts hin7 hown hK hP 0 rfl rfl 0 (by decide) (hts (.fieldLink RX7 7 "SnapTableModel" "xs" "[J") (by decide +kernel)) (fun _ h9 => h9) rfl dX7_edge_48 ?_
              refine lv_iload hx hb dX7_edge_51 (lv_at hl 1 rfl) ?_
              refine va_lald hx hb hK hP 1 0 rfl rfl (by first | with_reducible assumption | with_reducible exact pt_in (by with_reducible assumption) | with_reducible exact ptm_in (by with_reducible assumption) | exact LU.vin (B := 8) hm (by decide) (by with_reducible assumption) (by decide) | exact LU.vin (B := 4) hm (by decide) (by with_reducible assumption) (by decide) | exact LU.vin (B := 16) hm (by decide) (by with_reducible assumption) (by decide) | exact vp_in_nI (n := 0) (by decide) (by decide) | with_reducible exact gdm_in (by with_reducible assumption) (by with_reducible assumption) | with_reducible exact gd_in (by with_reducible assumption) (by with_reducible assumption)) dX7_edge_53 ?_
              refine hc_S (As := [.long w, .long (u.1 i.toNatClampNeg)]) (rest := []) ⟨hx, hb, hml, hown, hts⟩ (ct_X7_lesser l w (u.1 i.toNatClampNeg)) (va_cwS 2 hts gX7_edge_X7_lesser rfl rfl rfl (by decide +kernel) ⟨Nat.le_of_ble_eq_true rfl, Nat.le_of_ble_eq_true rfl⟩) rfl hl.1 rfl (Nat.le_of_ble_eq_true rfl) dX7_edge_54 ⟨Nat.le_of_ble_eq_true rfl, Nat.le_of_ble_eq_true rfl⟩ ?_
              refine lv_lstore_n (lv' := [(2, .long (mX7_lesser w (u.1 i.toNatClampNeg))), (4, .int i), (0, .ref (bd 0)), (1, .int a0)]) hx hb dX7_edge_57 rfl hl (by decide) rfl (fun ls hl => ?_)
              refine lv_iinc (v := (i + 1)) (lv' := [(4, .int (i + 1)), (2, .long (mX7_lesser w (u.1 i.toNatClampNeg))), (0, .ref (bd 0)), (1, .int a0)]) hx hb dX7_edge_58 hl (k := 1) rfl rfl (by decide) rfl (fun ls hl => ?_)
              refine lv_goto (tgt := 21) hx hb dX7_edge_61 (by decide) ?_
              exact ih (mX7_lesser w (u.1 i.toNatClampNeg)) (i + 1) ls (LU.up (B := 8) (by decide) hm (by with_reducible assumption))  (by rw [← heq, mX7_edge_L, if_neg c_3, if_neg c_4]) (lv_sub hl [1, 0, 2, 3] rfl)
            · refine lv_lload_n hx hb dX7_edge_32 rfl (lv_at hl 0 rfl) ?_
              refine lv_aload_n hx hb dX7_edge_33 rfl (lv_at hl 2 rfl) ?_
              refine va_get (D := (dC, dI)) (ci := 3) (v := .ref (bd 1)) (C := RX7) (T := TX7) (N := 17) hx hb hts hin7 hown hK hP 0 rfl rfl 0 (by decide) (hts (.fieldLink RX7 7 "SnapTableModel" "xs" "[J") (by decide +kernel)) (fun _ h9 => h9) rfl dX7_edge_34 ?_
              refine lv_iload hx hb dX7_edge_37 (lv_at hl 1 rfl) ?_
              refine va_lald hx hb hK hP 1 0 rfl rfl (by first | with_reducible assumption | with_reducible exact pt_in (by with_reducible assumption) | with_reducible exact ptm_in (by with_reducible assumption) | exact LU.vin (B := 8) hm (by decide) (by with_reducible assumption) (by decide) | exact LU.vin (B := 4) hm (by decide) (by with_reducible assumption) (by decide) | exact LU.vin (B := 16) hm (by decide) (by with_reducible assumption) (by decide) | exact vp_in_nI (n := 0) (by decide) (by decide) | with_reducible exact gdm_in (by with_reducible assumption) (by with_reducible assumption) | with_reducible exact gd_in (by with_reducible assumption) (by with_reducible assumption)) dX7_edge_39 ?_
              refine hc_S (As := [.long w, .long (u.1 i.toNatClampNeg)]) (rest := []) ⟨hx, hb, hml, hown, hts⟩ (ct_X7_greater l w (u.1 i.toNatClampNeg)) (va_cwS 2 hts gX7_edge_X7_greater rfl rfl rfl (by decide +kernel) ⟨Nat.le_of_ble_eq_true rfl, Nat.le_of_ble_eq_true rfl⟩) rfl hl.1 rfl (Nat.le_of_ble_eq_true rfl) dX7_edge_40 ⟨Nat.le_of_ble_eq_true rfl, Nat.le_of_ble_eq_true rfl⟩ ?_
              refine lv_goto (tgt := 57) hx hb dX7_edge_43 (by decide) ?_
              refine lv_lstore_n (lv' := [(2, .long (mX7_greater w (u.1 i.toNatClampNeg))), (4, .int i), (0, .ref (bd 0)), (1, .int a0)]) hx hb dX7_edge_57 rfl hl (by decide) rfl (fun ls hl => ?_)
              refine lv_iinc (v := (i + 1)) (lv' := [(4, .int (i + 1)), (2, .long (mX7_greater w (u.1 i.toNatClampNeg))), (0, .ref (bd 0)), (1, .int a0)]) hx hb dX7_edge_58 hl (k := 1) rfl rfl (by decide) rfl (fun ls hl => ?_)
              refine lv_goto (tgt := 21) hx hb dX7_edge_61 (by decide) ?_
              exact ih (mX7_greater w (u.1 i.toNatClampNeg)) (i + 1) ls (LU.up (B := 8) (by decide) hm (by with_reducible assumption))  (by rw [← heq, mX7_edge_L, if_neg c_3, if_pos c_4]) (lv_sub hl [1, 0, 2, 3] rfl)
      exact loop 8 (u.1 (0 : Int32).toNatClampNeg) (1 : Int32) ls (by unfold LU; decide)  (by rw [mX7_edge, if_neg c_1, if_pos c_2]) (lv_sub hl [1, 0, 2, 3] rfl)
    · refine lv_lconst (v := (0 : Int64)) hx hb dX7_edge_9 (by decide) ?_
      exact W.lret (v := (0 : Int64)) hx hb hr (fun t ht _ => ⟨by rw [mX7_edge, if_neg c_1, if_neg c_2], ht⟩) (fun _ h => by cases h) dX7_edge_10

def mX7_rim_L (u : MS) (a0 : Int32) : Nat → Int32 → Int32 → Int32
  | 0, _, _ => default
  | n + 1, w, i => (if (8 : Int32) ≤ i then w else (if a0 = 0 then (mX7_rim_L u a0 n (mX7_greater4 w (u.2.1 i.toNatClampNeg)) (i + 1)) else (mX7_rim_L u a0 n (mX7_lesser4 w (u.2.1 i.toNatClampNeg)) (i + 1))))
def mX7_rim (u : MS) (a0 : Int32) : Int32 := (if a0 < 0 then (0 : Int32) else (if a0 ≤ (1 : Int32) then (mX7_rim_L u a0 8 (u.2.1 (0 : Int32).toNatClampNeg) (1 : Int32)) else (0 : Int32)))
set_option maxHeartbeats 4000000 in
set_option maxRecDepth 100000 in
theorem ct_X7_rim (l : Launch) (dC : Nat → ClassId) (dI : Nat → Nat → Nat) (bd : Nat → Nat) (cb : Nat → ClassId) (u : MS) (a0 : Int32) : Met l yX7_rim wsX7_rim { frames := 3, cells := 0, slots := 0, locals := 61 } (pR (dC, dI) vwCl [((cb 1), .long), ((cb 2), .int), ((cb 3), .long), ((cb 4), .boolean), ((cb 5), .int), ((cb 6), .long), ((cb 7), .int)] (WM bd cb u) [.ref (bd 0), .int a0]) (k2_QcV (.int (mX7_rim u a0))) 0 0 (fun _ => False) := by
  refine Met.ofW (cc := cX7_rim) (maxL := 4) (ret := (some .int)) (by decide) rfl ?_
  intro p e s m args below meth c s₁ B hml hv
  obtain ⟨rfl, hP, hK, hNW⟩ := hv
  have hx := B.exec
  have hb := B.bytes
  have hr := B.returns
  have hts := atoms_spec (ws := wsX7_rim) B.pre
  have hown : s.vm.findClass RX7 = some m.cls := findClass_of_methodNamed B.named
  have hlocks := B.notSynchronized
  have hin7 : ∀ w ∈ wsX70, w ∈ wsX7_rim := by decide +kernel
  have hl := lv_entry ([.ref (bd 0), .int a0]) (n := 4) (Nat.le_of_ble_eq_true rfl)
  rw [lg_entry_eq]
  generalize (lg_sl ([.ref (bd 0), .int a0]) ++ List.replicate (4 - (lg_sl ([.ref (bd 0), .int a0])).length) Slot.unset).toArray = ls at hl ⊢
  have hl : lv_has ls 4 [(0, .ref (bd 0)), (1, .int a0)] := hl
  refine lv_iload_n hx hb dX7_rim_0 rfl (lv_at hl 1 rfl) ?_
  refine lv_if_lt (tgt := 9) hx hb dX7_rim_1 (by decide) (fun c_1 => ?_) (fun c_1 => ?_)
  · refine lv_iconst (v := (0 : Int32)) hx hb dX7_rim_9 (by decide) ?_
    exact W.iret (v := (0 : Int32)) hx hb hr (fun t ht _ => ⟨by rw [mX7_rim, if_pos c_1], ht⟩) (fun _ h => by cases h) dX7_rim_10
  · refine lv_iload_n hx hb dX7_rim_4 rfl (lv_at hl 1 rfl) ?_
    refine lv_iconst (v := (1 : Int32)) hx hb dX7_rim_5 (by decide) ?_
    refine lv_icmp_le (tgt := 11) hx hb dX7_rim_6 (by decide) (fun c_2 => ?_) (fun c_2 => ?_)
    · refine lv_aload_n hx hb dX7_rim_11 rfl (lv_at hl 0 rfl) ?_
      refine va_get (D := (dC, dI)) (ci := 3) (v := .ref (bd 2)) (C := RX7) (T := TX7) (N := 17) hx hb hts hin7 hown hK hP 0 rfl rfl 1 (by decide) (hts (.fieldLink RX7 13 "SnapTableModel" "ys" "[I") (by decide +kernel)) (fun _ h9 => h9) rfl dX7_rim_12 ?_
      refine lv_iconst (v := (0 : Int32)) hx hb dX7_rim_15 (by decide) ?_
      refine va_iald hx hb hK hP 2 1 rfl rfl (by first | with_reducible assumption | with_reducible exact pt_in (by with_reducible assumption) | with_reducible exact ptm_in (by with_reducible assumption) | exact LU.vin (B := 8) hm (by decide) (by with_reducible assumption) (by decide) | exact LU.vin (B := 4) hm (by decide) (by with_reducible assumption) (by decide) | exact LU.vin (B := 16) hm (by decide) (by with_reducible assumption) (by decide) | exact vp_in_nI (n := 0) (by decide) (by decide) | with_reducible exact gdm_in (by with_reducible assumption) (by with_reducible assumption) | with_reducible exact gd_in (by with_reducible assumption) (by with_reducible assumption)) dX7_rim_16 ?_
      refine lv_istore_n (lv' := [(2, .int (u.2.1 (0 : Int32).toNatClampNeg)), (0, .ref (bd 0)), (1, .int a0)]) hx hb dX7_rim_17 rfl hl (by decide) rfl (fun ls hl => ?_)
      refine lv_iconst (v := (1 : Int32)) hx hb dX7_rim_18 (by decide) ?_
      refine lv_istore_n (lv' := [(3, .int (1 : Int32)), (2, .int (u.2.1 (0 : Int32).toNatClampNeg)), (0, .ref (bd 0)), (1, .int a0)]) hx hb dX7_rim_19 rfl hl (by decide) rfl (fun ls hl => ?_)
      have loop : ∀ (n : Nat) (w : Int32) (i : Int32) (ls : Array Slot), LU 8 n i → mX7_rim_L u a0 n w i = mX7_rim u a0 → lv_has ls 4 [(2, .int w), (3, .int i), (0, .ref (bd 0)), (1, .int a0)] → W p l e (headSpec wsX7_rim { frames := 3, cells := 0, slots := 0, locals := 61 }).room s m ([.ref (bd 0), .int a0] : List Value).toArray below meth c s.heap [] 0 0 (MQ below (k2_QcV (.int (mX7_rim u a0))) ([.ref (bd 0), .int a0] : List Value).toArray s 0 0 (fun _ => False)) (F0 m 20 ls []) := by
        intro n
        induction n with
        | zero => intro w i ls hm; exact absurd hm (fun h => h.z)
        | succ n ih =>
          intro w i ls hm  heq hl
          refine lv_iload_n hx hb dX7_rim_20 rfl (lv_at hl 1 rfl) ?_
          refine lv_bipush (v := (8 : Int32)) hx hb dX7_rim_21 (by decide) ?_
          refine lv_icmp_ge (tgt := 60) hx hb dX7_rim_23 (by decide) (fun c_3 => ?_) (fun c_3 => ?_)
          · refine lv_iload_n hx hb dX7_rim_60 rfl (lv_at hl 0 rfl) ?_
            exact W.iret (v := w) hx hb hr (fun t ht _ => ⟨by rw [← heq, mX7_rim_L, if_pos c_3], ht⟩) (fun _ h => by cases h) dX7_rim_61
          · refine lv_iload_n hx hb dX7_rim_26 rfl (lv_at hl 3 rfl) ?_
            refine lv_if_ne (tgt := 43) hx hb dX7_rim_27 (by decide) (fun c_4 => ?_) (fun c_4 => ?_)
            · refine lv_iload_n hx hb dX7_rim_43 rfl (lv_at hl 0 rfl) ?_
              refine lv_aload_n hx hb dX7_rim_44 rfl (lv_at hl 2 rfl) ?_
              refine va_get (D := (dC, dI)) (ci := 3) (v := .ref (bd 2)) (C := RX7) (T := TX7) (N := 17) hx hb hts hin7 hown hK hP 0 rfl rfl 1 (by decide) (hts (.fieldLink RX7 13 "SnapTableModel" "ys" "[I") (by decide +kernel)) (fun _ h9 => h9) rfl dX7_rim_45 ?_
              refine lv_iload_n hx hb dX7_rim_48 rfl (lv_at hl 1 rfl) ?_
              refine va_iald hx hb hK hP 2 1 rfl rfl (by first | with_reducible assumption | with_reducible exact pt_in (by with_reducible assumption) | with_reducible exact ptm_in (by with_reducible assumption) | exact LU.vin (B := 8) hm (by decide) (by with_reducible assumption) (by decide) | exact LU.vin (B := 4) hm (by decide) (by with_reducible assumption) (by decide) | exact LU.vin (B := 16) hm (by decide) (by with_reducible assumption) (by decide) | exact vp_in_nI (n := 0) (by decide) (by decide) | with_reducible exact gdm_in (by with_reducible assumption) (by with_reducible assumption) | with_reducible exact gd_in (by with_reducible assumption) (by with_reducible assumption)) dX7_rim_49 ?_
              refine hc_S (As := [.int w, .int (u.2.1 i.toNatClampNeg)]) (rest := []) ⟨hx, hb, hml, hown, hts⟩ (ct_X7_lesser4 l w (u.2.1 i.toNatClampNeg)) (va_cwS 2 hts gX7_rim_X7_lesser4 rfl rfl rfl (by decide +kernel) ⟨Nat.le_of_ble_eq_true rfl, Nat.le_of_ble_eq_true rfl⟩) rfl hl.1 rfl (Nat.le_of_ble_eq_true rfl) dX7_rim_50 ⟨Nat.le_of_ble_eq_true rfl, Nat.le_of_ble_eq_true rfl⟩ ?_
              refine lv_istore_n (lv' := [(2, .int (mX7_lesser4 w (u.2.1 i.toNatClampNeg))), (3, .int i), (0, .ref (bd 0)), (1, .int a0)]) hx hb dX7_rim_53 rfl hl (by decide) rfl (fun ls hl => ?_)
              refine lv_iinc (v := (i + 1)) (lv' := [(3, .int (i + 1)), (2, .int (mX7_lesser4 w (u.2.1 i.toNatClampNeg))), (0, .ref (bd 0)), (1, .int a0)]) hx hb dX7_rim_54 hl (k := 1) rfl rfl (by decide) rfl (fun ls hl => ?_)
              refine lv_goto (tgt := 20) hx hb dX7_rim_57 (by decide) ?_
              exact ih (mX7_lesser4 w (u.2.1 i.toNatClampNeg)) (i + 1) ls (LU.up (B := 8) (by decide) hm (by with_reducible assumption))  (by rw [← heq, mX7_rim_L, if_neg c_3, if_neg c_4]) (lv_sub hl [1, 0, 2, 3] rfl)
            · refine lv_iload_n hx hb dX7_rim_30 rfl (lv_at hl 0 rfl) ?_
              refine lv_aload_n hx hb dX7_rim_31 rfl (lv_at hl 2 rfl) ?_
              refine va_get (D := (dC, dI)) (ci := 3) (v := .ref (bd 2)) (C := RX7) (T := TX7) (N := 17) hx hb hts hin7 hown hK hP 0 rfl rfl 1 (by decide) (hts (.fieldLink RX7 13 "SnapTableModel" "ys" "[I") (by decide +kernel)) (fun _ h9 => h9) rfl dX7_rim_32 ?_
              refine lv_iload_n hx hb dX7_rim_35 rfl (lv_at hl 1 rfl) ?_
              refine va_iald hx hb hK hP 2 1 rfl rfl (by first | with_reducible assumption | with_reducible exact pt_in (by with_reducible assumption) | with_reducible exact ptm_in (by with_reducible assumption) | exact LU.vin (B := 8) hm (by decide) (by with_reducible assumption) (by decide) | exact LU.vin (B := 4) hm (by decide) (by with_reducible assumption) (by decide) | exact LU.vin (B := 16) hm (by decide) (by with_reducible assumption) (by decide) | exact vp_in_nI (n := 0) (by decide) (by decide) | with_reducible exact gdm_in (by with_reducible assumption) (by with_reducible assumption) | with_reducible exact gd_in (by with_reducible assumption) (by with_reducible assumption)) dX7_rim_36 ?_
              refine hc_S (As := [.int w, .int (u.2.1 i.toNatClampNeg)]) (rest := []) ⟨hx, hb, hml, hown, hts⟩ (ct_X7_greater4 l w (u.2.1 i.toNatClampNeg)) (va_cwS 2 hts gX7_rim_X7_greater4 rfl rfl rfl (by decide +kernel) ⟨Nat.le_of_ble_eq_true rfl, Nat.le_of_ble_eq_true rfl⟩) rfl hl.1 rfl (Nat.le_of_ble_eq_true rfl) dX7_rim_37 ⟨Nat.le_of_ble_eq_true rfl, Nat.le_of_ble_eq_true rfl⟩ ?_
              refine lv_goto (tgt := 53) hx hb dX7_rim_40 (by decide) ?_
              refine lv_istore_n (lv' := [(2, .int (mX7_greater4 w (u.2.1 i.toNatClampNeg))), (3, .int i), (0, .ref (bd 0)), (1, .int a0)]) hx hb dX7_rim_53 rfl hl (by decide) rfl (fun ls hl => ?_)
              refine lv_iinc (v := (i + 1)) (lv' := [(3, .int (i + 1)), (2, .int (mX7_greater4 w (u.2.1 i.toNatClampNeg))), (0, .ref (bd 0)), (1, .int a0)]) hx hb dX7_rim_54 hl (k := 1) rfl rfl (by decide) rfl (fun ls hl => ?_)
              refine lv_goto (tgt := 20) hx hb dX7_rim_57 (by decide) ?_
              exact ih (mX7_greater4 w (u.2.1 i.toNatClampNeg)) (i + 1) ls (LU.up (B := 8) (by decide) hm (by with_reducible assumption))  (by rw [← heq, mX7_rim_L, if_neg c_3, if_pos c_4]) (lv_sub hl [1, 0, 2, 3] rfl)
      exact loop 8 (u.2.1 (0 : Int32).toNatClampNeg) (1 : Int32) ls (by unfold LU; decide)  (by rw [mX7_rim, if_neg c_1, if_pos c_2]) (lv_sub hl [1, 0, 2, 3] rfl)
    · refine lv_iconst (v := (0 : Int32)) hx hb dX7_rim_9 (by decide) ?_
      exact W.iret (v := (0 : Int32)) hx hb hr (fun t ht _ => ⟨by rw [mX7_rim, if_neg c_1, if_neg c_2], ht⟩) (fun _ h => by cases h) dX7_rim_10

def mX7_far (u : MS) (a0 : Int32) (a1 : Int32) : Int64 := (if (mX7_isPoint a0) = 0 then (0 : Int64) else (if (mX7_isPoint a1) = 0 then (0 : Int64) else (if (lg_cmp (mX7_size (mX7_bits (FP.dsub (mX7_of (u.1 a0.toNatClampNeg)) (mX7_of (u.1 a1.toNatClampNeg))))) (mX7_bits (FP.f2d (mX7_of4 (mX7_size4 (mX7_bits4 (FP.fsub (mX7_of4 (u.2.1 a0.toNatClampNeg)) (mX7_of4 (u.2.1 a1.toNatClampNeg))))))))) ≤ 0 then (mX7_bits (FP.f2d (mX7_of4 (mX7_size4 (mX7_bits4 (FP.fsub (mX7_of4 (u.2.1 a0.toNatClampNeg)) (mX7_of4 (u.2.1 a1.toNatClampNeg)))))))) else (mX7_size (mX7_bits (FP.dsub (mX7_of (u.1 a0.toNatClampNeg)) (mX7_of (u.1 a1.toNatClampNeg))))))))
set_option maxHeartbeats 4000000 in
set_option maxRecDepth 100000 in
theorem ct_X7_far (l : Launch) (dC : Nat → ClassId) (dI : Nat → Nat → Nat) (bd : Nat → Nat) (cb : Nat → ClassId) (u : MS) (a0 : Int32) (a1 : Int32) (hsx : ∀ i : Int32, vp_in i 8 → vn_snl2d (u.1 i.toNatClampNeg) = false) (hsy : ∀ i : Int32, vp_in i 8 → vn_sni2f (u.2.1 i.toNatClampNeg) = false) (hd : ∀ i j : Int32, vp_in i 8 → vp_in j 8 → FP.dIsNaN (FP.dsub (mX7_of (u.1 i.toNatClampNeg)) (mX7_of (u.1 j.toNatClampNeg))) = false) (hf : ∀ i j : Int32, vp_in i 8 → vp_in j 8 → FP.fIsNaN (FP.fsub (mX7_of4 (u.2.1 i.toNatClampNeg)) (mX7_of4 (u.2.1 j.toNatClampNeg))) = false) (hb4 : ∀ i j : Int32, vp_in i 8 → vp_in j 8 → vn_sni2f (mX7_size4 (mX7_bits4 (FP.fsub (mX7_of4 (u.2.1 i.toNatClampNeg)) (mX7_of4 (u.2.1 j.toNatClampNeg))))) = false) (hn4 : ∀ i j : Int32, vp_in i 8 → vp_in j 8 → FP.fIsNaN (mX7_of4 (mX7_size4 (mX7_bits4 (FP.fsub (mX7_of4 (u.2.1 i.toNatClampNeg)) (mX7_of4 (u.2.1 j.toNatClampNeg)))))) = false) : Met l yX7_far wsX7_far { frames := 3, cells := 0, slots := 0, locals := 63 } (pR (dC, dI) vwCl [((cb 1), .long), ((cb 2), .int), ((cb 3), .long), ((cb 4), .boolean), ((cb 5), .int), ((cb 6), .long), ((cb 7), .int)] (WM bd cb u) [.ref (bd 0), .int a0, .int a1]) (k2_QcV (.long (mX7_far u a0 a1))) 0 0 (fun _ => False) := by
  refine Met.ofW (cc := cX7_far) (maxL := 8) (ret := (some .long)) (by decide) rfl ?_
  intro p e s m args below meth c s₁ B hml hv
  obtain ⟨rfl, hP, hK, hNW⟩ := hv
  have hx := B.exec
  have hb := B.bytes
  have hr := B.returns
  have hts := atoms_spec (ws := wsX7_far) B.pre
  have hown : s.vm.findClass RX7 = some m.cls := findClass_of_methodNamed B.named
  have hlocks := B.notSynchronized
  have hin7 : ∀ w ∈ wsX70, w ∈ wsX7_far := by decide +kernel
  have hl := lv_entry ([.ref (bd 0), .int a0, .int a1]) (n := 8) (Nat.le_of_ble_eq_true rfl)
  rw [lg_entry_eq]
  generalize (lg_sl ([.ref (bd 0), .int a0, .int a1]) ++ List.replicate (8 - (lg_sl ([.ref (bd 0), .int a0, .int a1])).length) Slot.unset).toArray = ls at hl ⊢
  have hl : lv_has ls 8 [(0, .ref (bd 0)), (1, .int a0), (2, .int a1)] := hl
  refine lv_iload_n hx hb dX7_far_0 rfl (lv_at hl 1 rfl) ?_
  refine hc_S (As := [.int a0]) (rest := []) ⟨hx, hb, hml, hown, hts⟩ (ct_X7_isPoint l a0) (va_cwS 1 hts gX7_far_X7_isPoint rfl rfl rfl (by decide +kernel) ⟨Nat.le_of_ble_eq_true rfl, Nat.le_of_ble_eq_true rfl⟩) rfl hl.1 rfl (Nat.le_of_ble_eq_true rfl) dX7_far_1 ⟨Nat.le_of_ble_eq_true rfl, Nat.le_of_ble_eq_true rfl⟩ ?_
  refine lv_if_eq (tgt := 14) hx hb dX7_far_4 (by decide) (fun c_1 => ?_) (fun c_1 => ?_)
  · refine lv_lconst (v := (0 : Int64)) hx hb dX7_far_14 (by decide) ?_
    exact W.lret (v := (0 : Int64)) hx hb hr (fun t ht _ => ⟨by rw [mX7_far, if_pos c_1], ht⟩) (fun _ h => by cases h) dX7_far_15
  · refine lv_iload_n hx hb dX7_far_7 rfl (lv_at hl 2 rfl) ?_
    refine hc_S (As := [.int a1]) (rest := []) ⟨hx, hb, hml, hown, hts⟩ (ct_X7_isPoint l a1) (va_cwS 1 hts gX7_far_X7_isPoint rfl rfl rfl (by decide +kernel) ⟨Nat.le_of_ble_eq_true rfl, Nat.le_of_ble_eq_true rfl⟩) rfl hl.1 rfl (Nat.le_of_ble_eq_true rfl) dX7_far_8 ⟨Nat.le_of_ble_eq_true rfl, Nat.le_of_ble_eq_true rfl⟩ ?_
    refine lv_if_ne (tgt := 16) hx hb dX7_far_11 (by decide) (fun c_2 => ?_) (fun c_2 => ?_)
    · refine lv_aload_n hx hb dX7_far_16 rfl (lv_at hl 0 rfl) ?_
      refine va_get (D := (dC, dI)) (ci := 3) (v := .ref (bd 1)) (C := RX7) (T := TX7) (N := 17) hx hb hts hin7 hown hK hP 0 rfl rfl 0 (by decide) (hts (.fieldLink RX7 7 "SnapTableModel" "xs" "[J") (by decide +kernel)) (fun _ h9 => h9) rfl dX7_far_17 ?_
      refine lv_iload_n hx hb dX7_far_20 rfl (lv_at hl 1 rfl) ?_
      refine va_lald hx hb hK hP 1 0 rfl rfl (by first | with_reducible assumption | with_reducible exact pt_in (by with_reducible assumption) | with_reducible exact ptm_in (by with_reducible assumption) | exact LU.vin (B := 8) hm (by decide) (by with_reducible assumption) (by decide) | exact LU.vin (B := 4) hm (by decide) (by with_reducible assumption) (by decide) | exact LU.vin (B := 16) hm (by decide) (by with_reducible assumption) (by decide) | exact vp_in_nI (n := 0) (by decide) (by decide) | with_reducible exact gdm_in (by with_reducible assumption) (by with_reducible assumption) | with_reducible exact gd_in (by with_reducible assumption) (by with_reducible assumption)) dX7_far_21 ?_
      refine hc_S (As := [.long (u.1 a0.toNatClampNeg)]) (rest := []) ⟨hx, hb, hml, hown, hts⟩ (ct_X7_of l (u.1 a0.toNatClampNeg) (by first | with_reducible assumption | with_reducible exact hsx _ (ptm_in (by with_reducible assumption)) | with_reducible exact hsy _ (ptm_in (by with_reducible assumption)) | with_reducible exact hb4 _ _ (ptm_in (by with_reducible assumption)) (ptm_in (by with_reducible assumption)))) (va_cwS 1 hts gX7_far_X7_of rfl rfl rfl (by decide +kernel) ⟨Nat.le_of_ble_eq_true rfl, Nat.le_of_ble_eq_true rfl⟩) rfl hl.1 rfl (Nat.le_of_ble_eq_true rfl) dX7_far_22 ⟨Nat.le_of_ble_eq_true rfl, Nat.le_of_ble_eq_true rfl⟩ ?_
      refine lv_aload_n hx hb dX7_far_25 rfl (lv_at hl 0 rfl) ?_
      refine va_get (D := (dC, dI)) (ci := 3) (v := .ref (bd 1)) (C := RX7) (T := TX7) (N := 17) hx hb hts hin7 hown hK hP 0 rfl rfl 0 (by decide) (hts (.fieldLink RX7 7 "SnapTableModel" "xs" "[J") (by decide +kernel)) (fun _ h9 => h9) rfl dX7_far_26 ?_
      refine lv_iload_n hx hb dX7_far_29 rfl (lv_at hl 2 rfl) ?_
      refine va_lald hx hb hK hP 1 0 rfl rfl (by first | with_reducible assumption | with_reducible exact pt_in (by with_reducible assumption) | with_reducible exact ptm_in (by with_reducible assumption) | exact LU.vin (B := 8) hm (by decide) (by with_reducible assumption) (by decide) | exact LU.vin (B := 4) hm (by decide) (by with_reducible assumption) (by decide) | exact LU.vin (B := 16) hm (by decide) (by with_reducible assumption) (by decide) | exact vp_in_nI (n := 0) (by decide) (by decide) | with_reducible exact gdm_in (by with_reducible assumption) (by with_reducible assumption) | with_reducible exact gd_in (by with_reducible assumption) (by with_reducible assumption)) dX7_far_30 ?_
      refine hc_S (As := [.long (u.1 a1.toNatClampNeg)]) (rest := [.double (mX7_of (u.1 a0.toNatClampNeg))]) ⟨hx, hb, hml, hown, hts⟩ (ct_X7_of l (u.1 a1.toNatClampNeg) (by first | with_reducible assumption | with_reducible exact hsx _ (ptm_in (by with_reducible assumption)) | with_reducible exact hsy _ (ptm_in (by with_reducible assumption)) | with_reducible exact hb4 _ _ (ptm_in (by with_reducible assumption)) (ptm_in (by with_reducible assumption)))) (va_cwS 1 hts gX7_far_X7_of rfl rfl rfl (by decide +kernel) ⟨Nat.le_of_ble_eq_true rfl, Nat.le_of_ble_eq_true rfl⟩) rfl hl.1 rfl (Nat.le_of_ble_eq_true rfl) dX7_far_31 ⟨Nat.le_of_ble_eq_true rfl, Nat.le_of_ble_eq_true rfl⟩ ?_
      refine lv_dsub hx hb dX7_far_34 (nn64 (by first | with_reducible exact hd _ _ (ptm_in (by with_reducible assumption)) (ptm_in (by with_reducible assumption)) | with_reducible exact hf _ _ (ptm_in (by with_reducible assumption)) (ptm_in (by with_reducible assumption)) | with_reducible exact dn_f2d (hn4 _ _ (ptm_in (by with_reducible assumption)) (ptm_in (by with_reducible assumption))))) ?_
      refine hc_S (As := [.double (FP.dsub (mX7_of (u.1 a0.toNatClampNeg)) (mX7_of (u.1 a1.toNatClampNeg)))]) (rest := []) ⟨hx, hb, hml, hown, hts⟩ (ct_X7_bits l (FP.dsub (mX7_of (u.1 a0.toNatClampNeg)) (mX7_of (u.1 a1.toNatClampNeg)))) (va_cwS 1 hts gX7_far_X7_bits rfl rfl rfl (by decide +kernel) ⟨Nat.le_of_ble_eq_true rfl, Nat.le_of_ble_eq_true rfl⟩) rfl hl.1 rfl (Nat.le_of_ble_eq_true rfl) dX7_far_35 ⟨Nat.le_of_ble_eq_true rfl, Nat.le_of_ble_eq_true rfl⟩ ?_
      refine hc_S (As := [.long (mX7_bits (FP.dsub (mX7_of (u.1 a0.toNatClampNeg)) (mX7_of (u.1 a1.toNatClampNeg))))]) (rest := []) ⟨hx, hb, hml, hown, hts⟩ (ct_X7_size l (mX7_bits (FP.dsub (mX7_of (u.1 a0.toNatClampNeg)) (mX7_of (u.1 a1.toNatClampNeg))))) (va_cwS 1 hts gX7_far_X7_size rfl rfl rfl (by decide +kernel) ⟨Nat.le_of_ble_eq_true rfl, Nat.le_of_ble_eq_true rfl⟩) rfl hl.1 rfl (Nat.le_of_ble_eq_true rfl) dX7_far_38 ⟨Nat.le_of_ble_eq_true rfl, Nat.le_of_ble_eq_true rfl⟩ ?_
      refine lv_lstore_n (lv' := [(3, .long (mX7_size (mX7_bits (FP.dsub (mX7_of (u.1 a0.toNatClampNeg)) (mX7_of (u.1 a1.toNatClampNeg)))))), (0, .ref (bd 0)), (1, .int a0), (2, .int a1)]) hx hb dX7_far_41 rfl hl (by decide) rfl (fun ls hl => ?_)
      refine lv_aload_n hx hb dX7_far_42 rfl (lv_at hl 1 rfl) ?_
      refine va_get (D := (dC, dI)) (ci := 3) (v := .ref (bd 2)) (C := RX7) (T := TX7) (N := 17) hx hb hts hin7 hown hK hP 0 rfl rfl 1 (by decide) (hts (.fieldLink RX7 13 "SnapTableModel" "ys" "[I") (by decide +kernel)) (fun _ h9 => h9) rfl dX7_far_43 ?_
      refine lv_iload_n hx hb dX7_far_46 rfl (lv_at hl 2 rfl) ?_
      refine va_iald hx hb hK hP 2 1 rfl rfl (by first | with_reducible assumption | with_reducible exact pt_in (by with_reducible assumption) | with_reducible exact ptm_in (by with_reducible assumption) | exact LU.vin (B := 8) hm (by decide) (by with_reducible assumption) (by decide) | exact LU.vin (B := 4) hm (by decide) (by with_reducible assumption) (by decide) | exact LU.vin (B := 16) hm (by decide) (by with_reducible assumption) (by decide) | exact vp_in_nI (n := 0) (by decide) (by decide) | with_reducible exact gdm_in (by with_reducible assumption) (by with_reducible assumption) | with_reducible exact gd_in (by with_reducible assumption) (by with_reducible assumption)) dX7_far_47 ?_
      refine hc_S (As := [.int (u.2.1 a0.toNatClampNeg)]) (rest := []) ⟨hx, hb, hml, hown, hts⟩ (ct_X7_of4 l (u.2.1 a0.toNatClampNeg) (by first | with_reducible assumption | with_reducible exact hsx _ (ptm_in (by with_reducible assumption)) | with_reducible exact hsy _ (ptm_in (by with_reducible assumption)) | with_reducible exact hb4 _ _ (ptm_in (by with_reducible assumption)) (ptm_in (by with_reducible assumption)))) (va_cwS 1 hts gX7_far_X7_of4 rfl rfl rfl (by decide +kernel) ⟨Nat.le_of_ble_eq_true rfl, Nat.le_of_ble_eq_true rfl⟩) rfl hl.1 rfl (Nat.le_of_ble_eq_true rfl) dX7_far_48 ⟨Nat.le_of_ble_eq_true rfl, Nat.le_of_ble_eq_true rfl⟩ ?_
      refine lv_aload_n hx hb dX7_far_51 rfl (lv_at hl 1 rfl) ?_
      refine va_get (D := (dC, dI)) (ci := 3) (v := .ref (bd 2)) (C := RX7) (T := TX7) (N := 17) hx hb hts hin7 hown hK hP 0 rfl rfl 1 (by decide) (hts (.fieldLink RX7 13 "SnapTableModel" "ys" "[I") (by decide +kernel)) (fun _ h9 => h9) rfl dX7_far_52 ?_
      refine lv_iload_n hx hb dX7_far_55 rfl (lv_at hl 3 rfl) ?_
      refine va_iald hx hb hK hP 2 1 rfl rfl (by first | with_reducible assumption | with_reducible exact pt_in (by with_reducible assumption) | with_reducible exact ptm_in (by with_reducible assumption) | exact LU.vin (B := 8) hm (by decide) (by with_reducible assumption) (by decide) | exact LU.vin (B := 4) hm (by decide) (by with_reducible assumption) (by decide) | exact LU.vin (B := 16) hm (by decide) (by with_reducible assumption) (by decide) | exact vp_in_nI (n := 0) (by decide) (by decide) | with_reducible exact gdm_in (by with_reducible assumption) (by with_reducible assumption) | with_reducible exact gd_in (by with_reducible assumption) (by with_reducible assumption)) dX7_far_56 ?_
      refine hc_S (As := [.int (u.2.1 a1.toNatClampNeg)]) (rest := [.float (mX7_of4 (u.2.1 a0.toNatClampNeg))]) ⟨hx, hb, hml, hown, hts⟩ (ct_X7_of4 l (u.2.1 a1.toNatClampNeg) (by first | with_reducible assumption | with_reducible exact hsx _ (ptm_in (by with_reducible assumption)) | with_reducible exact hsy _ (ptm_in (by with_reducible assumption)) | with_reducible exact hb4 _ _ (ptm_in (by with_reducible assumption)) (ptm_in (by with_reducible assumption)))) (va_cwS 1 hts gX7_far_X7_of4 rfl rfl rfl (by decide +kernel) ⟨Nat.le_of_ble_eq_true rfl, Nat.le_of_ble_eq_true rfl⟩) rfl hl.1 rfl (Nat.le_of_ble_eq_true rfl) dX7_far_57 ⟨Nat.le_of_ble_eq_true rfl, Nat.le_of_ble_eq_true rfl⟩ ?_
      refine lv_fsub hx hb dX7_far_60 (nn32 (by first | with_reducible exact hd _ _ (ptm_in (by with_reducible assumption)) (ptm_in (by with_reducible assumption)) | with_reducible exact hf _ _ (ptm_in (by with_reducible assumption)) (ptm_in (by with_reducible assumption)) | with_reducible exact dn_f2d (hn4 _ _ (ptm_in (by with_reducible assumption)) (ptm_in (by with_reducible assumption))))) ?_
      refine hc_S (As := [.float (FP.fsub (mX7_of4 (u.2.1 a0.toNatClampNeg)) (mX7_of4 (u.2.1 a1.toNatClampNeg)))]) (rest := []) ⟨hx, hb, hml, hown, hts⟩ (ct_X7_bits4 l (FP.fsub (mX7_of4 (u.2.1 a0.toNatClampNeg)) (mX7_of4 (u.2.1 a1.toNatClampNeg)))) (va_cwS 1 hts gX7_far_X7_bits4 rfl rfl rfl (by decide +kernel) ⟨Nat.le_of_ble_eq_true rfl, Nat.le_of_ble_eq_true rfl⟩) rfl hl.1 rfl (Nat.le_of_ble_eq_true rfl) dX7_far_61 ⟨Nat.le_of_ble_eq_true rfl, Nat.le_of_ble_eq_true rfl⟩ ?_
      refine hc_S (As := [.int (mX7_bits4 (FP.fsub (mX7_of4 (u.2.1 a0.toNatClampNeg)) (mX7_of4 (u.2.1 a1.toNatClampNeg))))]) (rest := []) ⟨hx, hb, hml, hown, hts⟩ (ct_X7_size4 l (mX7_bits4 (FP.fsub (mX7_of4 (u.2.1 a0.toNatClampNeg)) (mX7_of4 (u.2.1 a1.toNatClampNeg))))) (va_cwS 1 hts gX7_far_X7_size4 rfl rfl rfl (by decide +kernel) ⟨Nat.le_of_ble_eq_true rfl, Nat.le_of_ble_eq_true rfl⟩) rfl hl.1 rfl (Nat.le_of_ble_eq_true rfl) dX7_far_64 ⟨Nat.le_of_ble_eq_true rfl, Nat.le_of_ble_eq_true rfl⟩ ?_
      refine lv_istore (lv' := [(5, .int (mX7_size4 (mX7_bits4 (FP.fsub (mX7_of4 (u.2.1 a0.toNatClampNeg)) (mX7_of4 (u.2.1 a1.toNatClampNeg)))))), (3, .long (mX7_size (mX7_bits (FP.dsub (mX7_of (u.1 a0.toNatClampNeg)) (mX7_of (u.1 a1.toNatClampNeg)))))), (0, .ref (bd 0)), (1, .int a0), (2, .int a1)]) hx hb dX7_far_67 hl (by decide) rfl (fun ls hl => ?_)
      refine lv_iload hx hb dX7_far_69 (lv_at hl 0 rfl) ?_
      refine hc_S (As := [.int (mX7_size4 (mX7_bits4 (FP.fsub (mX7_of4 (u.2.1 a0.toNatClampNeg)) (mX7_of4 (u.2.1 a1.toNatClampNeg)))))]) (rest := []) ⟨hx, hb, hml, hown, hts⟩ (ct_X7_of4 l (mX7_size4 (mX7_bits4 (FP.fsub (mX7_of4 (u.2.1 a0.toNatClampNeg)) (mX7_of4 (u.2.1 a1.toNatClampNeg))))) (by first | with_reducible assumption | with_reducible exact hsx _ (ptm_in (by with_reducible assumption)) | with_reducible exact hsy _ (ptm_in (by with_reducible assumption)) | with_reducible exact hb4 _ _ (ptm_in (by with_reducible assumption)) (ptm_in (by with_reducible assumption)))) (va_cwS 1 hts gX7_far_X7_of4 rfl rfl rfl (by decide +kernel) ⟨Nat.le_of_ble_eq_true rfl, Nat.le_of_ble_eq_true rfl⟩) rfl hl.1 rfl (Nat.le_of_ble_eq_true rfl) dX7_far_71 ⟨Nat.le_of_ble_eq_true rfl, Nat.le_of_ble_eq_true rfl⟩ ?_
      refine lv_f2d hx hb dX7_far_74 (nn64 (by first | with_reducible exact hd _ _ (ptm_in (by with_reducible assumption)) (ptm_in (by with_reducible assumption)) | with_reducible exact hf _ _ (ptm_in (by with_reducible assumption)) (ptm_in (by with_reducible assumption)) | with_reducible exact dn_f2d (hn4 _ _ (ptm_in (by with_reducible assumption)) (ptm_in (by with_reducible assumption))))) ?_
      refine hc_S (As := [.double (FP.f2d (mX7_of4 (mX7_size4 (mX7_bits4 (FP.fsub (mX7_of4 (u.2.1 a0.toNatClampNeg)) (mX7_of4 (u.2.1 a1.toNatClampNeg)))))))]) (rest := []) ⟨hx, hb, hml, hown, hts⟩ (ct_X7_bits l (FP.f2d (mX7_of4 (mX7_size4 (mX7_bits4 (FP.fsub (mX7_of4 (u.2.1 a0.toNatClampNeg)) (mX7_of4 (u.2.1 a1.toNatClampNeg)))))))) (va_cwS 1 hts gX7_far_X7_bits rfl rfl rfl (by decide +kernel) ⟨Nat.le_of_ble_eq_true rfl, Nat.le_of_ble_eq_true rfl⟩) rfl hl.1 rfl (Nat.le_of_ble_eq_true rfl) dX7_far_75 ⟨Nat.le_of_ble_eq_true rfl, Nat.le_of_ble_eq_true rfl⟩ ?_
      refine lv_lstore (lv' := [(6, .long (mX7_bits (FP.f2d (mX7_of4 (mX7_size4 (mX7_bits4 (FP.fsub (mX7_of4 (u.2.1 a0.toNatClampNeg)) (mX7_of4 (u.2.1 a1.toNatClampNeg))))))))), (5, .int (mX7_size4 (mX7_bits4 (FP.fsub (mX7_of4 (u.2.1 a0.toNatClampNeg)) (mX7_of4 (u.2.1 a1.toNatClampNeg)))))), (3, .long (mX7_size (mX7_bits (FP.dsub (mX7_of (u.1 a0.toNatClampNeg)) (mX7_of (u.1 a1.toNatClampNeg)))))), (0, .ref (bd 0)), (1, .int a0), (2, .int a1)]) hx hb dX7_far_78 hl (by decide) rfl (fun ls hl => ?_)
      refine lv_lload_n hx hb dX7_far_80 rfl (lv_at hl 2 rfl) ?_
      refine lv_lload hx hb dX7_far_81 (lv_at hl 0 rfl) ?_
      refine W.lcmp hx hb dX7_far_83 ?_
      refine lv_if_le (tgt := 91) hx hb dX7_far_84 (by decide) (fun c_3 => ?_) (fun c_3 => ?_)
      · refine lv_lload hx hb dX7_far_91 (lv_at hl 0 rfl) ?_
        exact W.lret (v := (mX7_bits (FP.f2d (mX7_of4 (mX7_size4 (mX7_bits4 (FP.fsub (mX7_of4 (u.2.1 a0.toNatClampNeg)) (mX7_of4 (u.2.1 a1.toNatClampNeg))))))))) hx hb hr (fun t ht _ => ⟨by rw [mX7_far, if_neg c_1, if_neg c_2, if_pos c_3], ht⟩) (fun _ h => by cases h) dX7_far_93
      · refine lv_lload_n hx hb dX7_far_87 rfl (lv_at hl 2 rfl) ?_
        refine lv_goto (tgt := 93) hx hb dX7_far_88 (by decide) ?_
        exact W.lret (v := (mX7_size (mX7_bits (FP.dsub (mX7_of (u.1 a0.toNatClampNeg)) (mX7_of (u.1 a1.toNatClampNeg)))))) hx hb hr (fun t ht _ => ⟨by rw [mX7_far, if_neg c_1, if_neg c_2, if_neg c_3], ht⟩) (fun _ h => by cases h) dX7_far_93
    · refine lv_lconst (v := (0 : Int64)) hx hb dX7_far_14 (by decide) ?_
      exact W.lret (v := (0 : Int64)) hx hb hr (fun t ht _ => ⟨by rw [mX7_far, if_neg c_1, if_pos c_2], ht⟩) (fun _ h => by cases h) dX7_far_15

def mX7_neighbour_L (u : MS) (a0 : Int32) : Nat → Int32 → Int32 → Int32
  | 0, _, _ => default
  | n + 1, q, i => (if (8 : Int32) ≤ i then q else (if i = a0 then (mX7_neighbour_L u a0 n q (i + 1)) else (if q = (-1 : Int32) then (mX7_neighbour_L u a0 n i (i + 1)) else (if 0 ≤ (lg_cmp (mX7_far u a0 i) (mX7_far u a0 q)) then (mX7_neighbour_L u a0 n q (i + 1)) else (mX7_neighbour_L u a0 n i (i + 1))))))
def mX7_neighbour (u : MS) (a0 : Int32) : Int32 := (if (mX7_isPoint a0) = 0 then (-1 : Int32) else (mX7_neighbour_L u a0 9 (-1 : Int32) (0 : Int32)))
set_option maxHeartbeats 4000000 in
set_option maxRecDepth 100000 in
theorem ct_X7_neighbour (l : Launch) (dC : Nat → ClassId) (dI : Nat → Nat → Nat) (bd : Nat → Nat) (cb : Nat → ClassId) (u : MS) (a0 : Int32) (hsx : ∀ i : Int32, vp_in i 8 → vn_snl2d (u.1 i.toNatClampNeg) = false) (hsy : ∀ i : Int32, vp_in i 8 → vn_sni2f (u.2.1 i.toNatClampNeg) = false) (hd : ∀ i j : Int32, vp_in i 8 → vp_in j 8 → FP.dIsNaN (FP.dsub (mX7_of (u.1 i.toNatClampNeg)) (mX7_of (u.1 j.toNatClampNeg))) = false) (hf : ∀ i j : Int32, vp_in i 8 → vp_in j 8 → FP.fIsNaN (FP.fsub (mX7_of4 (u.2.1 i.toNatClampNeg)) (mX7_of4 (u.2.1 j.toNatClampNeg))) = false) (hb4 : ∀ i j : Int32, vp_in i 8 → vp_in j 8 → vn_sni2f (mX7_size4 (mX7_bits4 (FP.fsub (mX7_of4 (u.2.1 i.toNatClampNeg)) (mX7_of4 (u.2.1 j.toNatClampNeg))))) = false) (hn4 : ∀ i j : Int32, vp_in i 8 → vp_in j 8 → FP.fIsNaN (mX7_of4 (mX7_size4 (mX7_bits4 (FP.fsub (mX7_of4 (u.2.1 i.toNatClampNeg)) (mX7_of4 (u.2.1 j.toNatClampNeg)))))) = false) : Met l yX7_neighbour wsX7_neighbour { frames := 4, cells := 0, slots := 0, locals := 90 } (pR (dC, dI) vwCl [((cb 1), .long), ((cb 2), .int), ((cb 3), .long), ((cb 4), .boolean), ((cb 5), .int), ((cb 6), .long), ((cb 7), .int)] (WM bd cb u) [.ref (bd 0), .int a0]) (k2_QcV (.int (mX7_neighbour u a0))) 0 0 (fun _ => False) := by
  refine Met.ofW (cc := cX7_neighbour) (maxL := 4) (ret := (some .int)) (by decide) rfl ?_
  intro p e s m args below meth c s₁ B hml hv
  obtain ⟨rfl, hP, hK, hNW⟩ := hv
  have hx := B.exec
  have hb := B.bytes
  have hr := B.returns
  have hts := atoms_spec (ws := wsX7_neighbour) B.pre
  have hown : s.vm.findClass RX7 = some m.cls := findClass_of_methodNamed B.named
  have hlocks := B.notSynchronized
  have hl := lv_entry ([.ref (bd 0), .int a0]) (n := 4) (Nat.le_of_ble_eq_true rfl)
  rw [lg_entry_eq]
  generalize (lg_sl ([.ref (bd 0), .int a0]) ++ List.replicate (4 - (lg_sl ([.ref (bd 0), .int a0])).length) Slot.unset).toArray = ls at hl ⊢
  have hl : lv_has ls 4 [(0, .ref (bd 0)), (1, .int a0)] := hl
  refine lv_iload_n hx hb dX7_neighbour_0 rfl (lv_at hl 1 rfl) ?_
  refine hc_S (As := [.int a0]) (rest := []) ⟨hx, hb, hml, hown, hts⟩ (ct_X7_isPoint l a0) (va_cwS 1 hts gX7_neighbour_X7_isPoint rfl rfl rfl (by decide +kernel) ⟨Nat.le_of_ble_eq_true rfl, Nat.le_of_ble_eq_true rfl⟩) rfl hl.1 rfl (Nat.le_of_ble_eq_true rfl) dX7_neighbour_1 ⟨Nat.le_of_ble_eq_true rfl, Nat.le_of_ble_eq_true rfl⟩ ?_
  refine lv_if_ne (tgt := 9) hx hb dX7_neighbour_4 (by decide) (fun c_1 => ?_) (fun c_1 => ?_)
  · refine lv_iconst (v := (-1 : Int32)) hx hb dX7_neighbour_9 (by decide) ?_
    refine lv_istore_n (lv' := [(2, .int (-1 : Int32)), (0, .ref (bd 0)), (1, .int a0)]) hx hb dX7_neighbour_10 rfl hl (by decide) rfl (fun ls hl => ?_)
    refine lv_iconst (v := (0 : Int32)) hx hb dX7_neighbour_11 (by decide) ?_
    refine lv_istore_n (lv' := [(3, .int (0 : Int32)), (2, .int (-1 : Int32)), (0, .ref (bd 0)), (1, .int a0)]) hx hb dX7_neighbour_12 rfl hl (by decide) rfl (fun ls hl => ?_)
    have loop : ∀ (n : Nat) (q : Int32) (i : Int32) (ls : Array Slot), LU 8 n i → mX7_neighbour_L u a0 n q i = mX7_neighbour u a0 → lv_has ls 4 [(2, .int q), (3, .int i), (0, .ref (bd 0)), (1, .int a0)] → W p l e (headSpec wsX7_neighbour { frames := 4, cells := 0, slots := 0, locals := 90 }).room s m ([.ref (bd 0), .int a0] : List Value).toArray below meth c s.heap [] 0 0 (MQ below (k2_QcV (.int (mX7_neighbour u a0))) ([.ref (bd 0), .int a0] : List Value).toArray s 0 0 (fun _ => False)) (F0 m 13 ls []) := by
      intro n
      induction n with
      | zero => intro q i ls hm; exact absurd hm (fun h => h.z)
      | succ n ih =>
        intro q i ls hm  heq hl
        refine lv_iload_n hx hb dX7_neighbour_13 rfl (lv_at hl 1 rfl) ?_
        refine lv_bipush (v := (8 : Int32)) hx hb dX7_neighbour_14 (by decide) ?_
        refine lv_icmp_ge (tgt := 56) hx hb dX7_neighbour_16 (by decide) (fun c_2 => ?_) (fun c_2 => ?_)
        · refine lv_iload_n hx hb dX7_neighbour_56 rfl (lv_at hl 0 rfl) ?_
          exact W.iret (v := q) hx hb hr (fun t ht _ => ⟨by rw [← heq, mX7_neighbour_L, if_pos c_2], ht⟩) (fun _ h => by cases h) dX7_neighbour_57
        · refine lv_iload_n hx hb dX7_neighbour_19 rfl (lv_at hl 1 rfl) ?_
          refine lv_iload_n hx hb dX7_neighbour_20 rfl (lv_at hl 3 rfl) ?_
          refine lv_icmp_ne (tgt := 27) hx hb dX7_neighbour_21 (by decide) (fun c_3 => ?_) (fun c_3 => ?_)
          · refine lv_iload_n hx hb dX7_neighbour_27 rfl (lv_at hl 0 rfl) ?_
            refine lv_iconst (v := (-1 : Int32)) hx hb dX7_neighbour_28 (by decide) ?_
            refine lv_icmp_eq (tgt := 48) hx hb dX7_neighbour_29 (by decide) (fun c_4 => ?_) (fun c_4 => ?_)
            · refine lv_iload_n hx hb dX7_neighbour_48 rfl (lv_at hl 1 rfl) ?_
              refine lv_istore_n (lv' := [(2, .int i), (3, .int i), (0, .ref (bd 0)), (1, .int a0)]) hx hb dX7_neighbour_49 rfl hl (by decide) rfl (fun ls hl => ?_)
              refine lv_iinc (v := (i + 1)) (lv' := [(3, .int (i + 1)), (2, .int i), (0, .ref (bd 0)), (1, .int a0)]) hx hb dX7_neighbour_50 hl (k := 1) rfl rfl (by decide) rfl (fun ls hl => ?_)
              refine lv_goto (tgt := 13) hx hb dX7_neighbour_53 (by decide) ?_
              exact ih i (i + 1) ls (LU.up (B := 8) (by decide) hm (by with_reducible assumption))  (by rw [← heq, mX7_neighbour_L, if_neg c_2, if_neg c_3, if_pos c_4]) (lv_sub hl [1, 0, 2, 3] rfl)
            · refine lv_aload_n hx hb dX7_neighbour_32 rfl (lv_at hl 2 rfl) ?_
              refine lv_iload_n hx hb dX7_neighbour_33 rfl (lv_at hl 3 rfl) ?_
              refine lv_iload_n hx hb dX7_neighbour_34 rfl (lv_at hl 1 rfl) ?_
              refine hc_V (C := RX7) (ci := 3) (T := TX7) (N := 17) (As := [.int a0, .int i]) (rest := []) ⟨hx, hb, hml, hown, hts⟩ (ct_X7_far l dC dI bd cb u a0 i (by with_reducible assumption) (by with_reducible assumption) (by with_reducible assumption) (by with_reducible assumption) (by with_reducible assumption) (by with_reducible assumption)) (cwV 2 hts gX7_neighbour_X7_far rfl rfl rfl (by decide +kernel) ⟨Nat.le_of_ble_eq_true rfl, Nat.le_of_ble_eq_true rfl⟩) (hw_part hP [0, 1, 2, 3, 4, 5, 6, 7] rfl) (hK.sub [0, 1, 2, 3, 4, 5, 6] rfl) hNW rfl rfl rfl hl.1 rfl (Nat.le_of_ble_eq_true rfl) dX7_neighbour_35 ⟨Nat.le_of_ble_eq_true rfl, Nat.le_of_ble_eq_true rfl⟩ ?_
              refine lv_aload_n hx hb dX7_neighbour_38 rfl (lv_at hl 2 rfl) ?_
              refine lv_iload_n hx hb dX7_neighbour_39 rfl (lv_at hl 3 rfl) ?_
              refine lv_iload_n hx hb dX7_neighbour_40 rfl (lv_at hl 0 rfl) ?_
              refine hc_V (C := RX7) (ci := 3) (T := TX7) (N := 17) (As := [.int a0, .int q]) (rest := [.long (mX7_far u a0 i)]) ⟨hx, hb, hml, hown, hts⟩ (ct_X7_far l dC dI bd cb u a0 q (by with_reducible assumption) (by with_reducible assumption) (by with_reducible assumption) (by with_reducible assumption) (by with_reducible assumption) (by with_reducible assumption)) (cwV 2 hts gX7_neighbour_X7_far rfl rfl rfl (by decide +kernel) ⟨Nat.le_of_ble_eq_true rfl, Nat.le_of_ble_eq_true rfl⟩) (hw_part hP [0, 1, 2, 3, 4, 5, 6, 7] rfl) (hK.sub [0, 1, 2, 3, 4, 5, 6] rfl) hNW rfl rfl rfl hl.1 rfl (Nat.le_of_ble_eq_true rfl) dX7_neighbour_41 ⟨Nat.le_of_ble_eq_true rfl, Nat.le_of_ble_eq_true rfl⟩ ?_
              refine W.lcmp hx hb dX7_neighbour_44 ?_
              refine lv_if_ge (tgt := 50) hx hb dX7_neighbour_45 (by decide) (fun c_5 => ?_) (fun c_5 => ?_)
              · refine lv_iinc (v := (i + 1)) (lv' := [(3, .int (i + 1)), (2, .int q), (0, .ref (bd 0)), (1, .int a0)]) hx hb dX7_neighbour_50 hl (k := 1) rfl rfl (by decide) rfl (fun ls hl => ?_)
                refine lv_goto (tgt := 13) hx hb dX7_neighbour_53 (by decide) ?_
                exact ih q (i + 1) ls (LU.up (B := 8) (by decide) hm (by with_reducible assumption))  (by rw [← heq, mX7_neighbour_L, if_neg c_2, if_neg c_3, if_neg c_4, if_pos c_5]) (lv_sub hl [1, 0, 2, 3] rfl)
              · refine lv_iload_n hx hb dX7_neighbour_48 rfl (lv_at hl 1 rfl) ?_
                refine lv_istore_n (lv' := [(2, .int i), (3, .int i), (0, .ref (bd 0)), (1, .int a0)]) hx hb dX7_neighbour_49 rfl hl (by decide) rfl (fun ls hl => ?_)
                refine lv_iinc (v := (i + 1)) (lv' := [(3, .int (i + 1)), (2, .int i), (0, .ref (bd 0)), (1, .int a0)]) hx hb dX7_neighbour_50 hl (k := 1) rfl rfl (by decide) rfl (fun ls hl => ?_)
                refine lv_goto (tgt := 13) hx hb dX7_neighbour_53 (by decide) ?_
                exact ih i (i + 1) ls (LU.up (B := 8) (by decide) hm (by with_reducible assumption))  (by rw [← heq, mX7_neighbour_L, if_neg c_2, if_neg c_3, if_neg c_4, if_neg c_5]) (lv_sub hl [1, 0, 2, 3] rfl)
          · refine lv_goto (tgt := 50) hx hb dX7_neighbour_24 (by decide) ?_
            refine lv_iinc (v := (i + 1)) (lv' := [(3, .int (i + 1)), (2, .int q), (0, .ref (bd 0)), (1, .int a0)]) hx hb dX7_neighbour_50 hl (k := 1) rfl rfl (by decide) rfl (fun ls hl => ?_)
            refine lv_goto (tgt := 13) hx hb dX7_neighbour_53 (by decide) ?_
            exact ih q (i + 1) ls (LU.up (B := 8) (by decide) hm (by with_reducible assumption))  (by rw [← heq, mX7_neighbour_L, if_neg c_2, if_pos c_3]) (lv_sub hl [1, 0, 2, 3] rfl)
    exact loop 9 (-1 : Int32) (0 : Int32) ls (by unfold LU; decide)  (by rw [mX7_neighbour, if_neg c_1]) (lv_sub hl [1, 0, 2, 3] rfl)
  · refine lv_iconst (v := (-1 : Int32)) hx hb dX7_neighbour_7 (by decide) ?_
    exact W.iret (v := (-1 : Int32)) hx hb hr (fun t ht _ => ⟨by rw [mX7_neighbour, if_pos c_1], ht⟩) (fun _ h => by cases h) dX7_neighbour_8

def mX7_cell (u : MS) (a0 : Int32) : Int32 := (if (mX7_isPoint a0) = 0 then (0 : Int32) else (mX7_whole32 (mX7_of (mX7_whole (mX7_bits (FP.ddiv (mX7_of (u.1 a0.toNatClampNeg)) (mX7_of u.2.2.2.2.1))) (0 : Int32)))))
set_option maxHeartbeats 4000000 in
set_option maxRecDepth 100000 in
theorem ct_X7_cell (l : Launch) (dC : Nat → ClassId) (dI : Nat → Nat → Nat) (bd : Nat → Nat) (cb : Nat → ClassId) (u : MS) (a0 : Int32) (hsx : ∀ i : Int32, vp_in i 8 → vn_snl2d (u.1 i.toNatClampNeg) = false) (hst : vn_snl2d u.2.2.2.2.1 = false) (hd : ∀ i : Int32, vp_in i 8 → FP.dIsNaN (FP.ddiv (mX7_of (u.1 i.toNatClampNeg)) (mX7_of u.2.2.2.2.1)) = false) (hw : ∀ i : Int32, vp_in i 8 → vn_snl2d (mX7_whole (mX7_bits (FP.ddiv (mX7_of (u.1 i.toNatClampNeg)) (mX7_of u.2.2.2.2.1))) (0 : Int32)) = false) : Met l yX7_cell wsX7_cell { frames := 3, cells := 0, slots := 0, locals := 63 } (pR (dC, dI) vwCl [((cb 1), .long), ((cb 2), .int), ((cb 3), .long), ((cb 4), .boolean), ((cb 5), .int), ((cb 6), .long), ((cb 7), .int)] (WM bd cb u) [.ref (bd 0), .int a0]) (k2_QcV (.int (mX7_cell u a0))) 0 0 (fun _ => False) := by
  refine Met.ofW (cc := cX7_cell) (maxL := 2) (ret := (some .int)) (by decide) rfl ?_
  intro p e s m args below meth c s₁ B hml hv
  obtain ⟨rfl, hP, hK, hNW⟩ := hv
  have hx := B.exec
  have hb := B.bytes
  have hr := B.returns
  have hts := atoms_spec (ws := wsX7_cell) B.pre
  have hown : s.vm.findClass RX7 = some m.cls := findClass_of_methodNamed B.named
  have hlocks := B.notSynchronized
  have hin7 : ∀ w ∈ wsX70, w ∈ wsX7_cell := by decide +kernel
  have hl := lv_entry ([.ref (bd 0), .int a0]) (n := 2) (Nat.le_of_ble_eq_true rfl)
  rw [lg_entry_eq]
  generalize (lg_sl ([.ref (bd 0), .int a0]) ++ List.replicate (2 - (lg_sl ([.ref (bd 0), .int a0])).length) Slot.unset).toArray = ls at hl ⊢
  have hl : lv_has ls 2 [(0, .ref (bd 0)), (1, .int a0)] := hl
  refine lv_iload_n hx hb dX7_cell_0 rfl (lv_at hl 1 rfl) ?_
  refine hc_S (As := [.int a0]) (rest := []) ⟨hx, hb, hml, hown, hts⟩ (ct_X7_isPoint l a0) (va_cwS 1 hts gX7_cell_X7_isPoint rfl rfl rfl (by decide +kernel) ⟨Nat.le_of_ble_eq_true rfl, Nat.le_of_ble_eq_true rfl⟩) rfl hl.1 rfl (Nat.le_of_ble_eq_true rfl) dX7_cell_1 ⟨Nat.le_of_ble_eq_true rfl, Nat.le_of_ble_eq_true rfl⟩ ?_
  refine lv_if_ne (tgt := 9) hx hb dX7_cell_4 (by decide) (fun c_1 => ?_) (fun c_1 => ?_)
  · refine lv_aload_n hx hb dX7_cell_9 rfl (lv_at hl 0 rfl) ?_
    refine va_get (D := (dC, dI)) (ci := 3) (v := .ref (bd 1)) (C := RX7) (T := TX7) (N := 17) hx hb hts hin7 hown hK hP 0 rfl rfl 0 (by decide) (hts (.fieldLink RX7 7 "SnapTableModel" "xs" "[J") (by decide +kernel)) (fun _ h9 => h9) rfl dX7_cell_10 ?_
    refine lv_iload_n hx hb dX7_cell_13 rfl (lv_at hl 1 rfl) ?_
    refine va_lald hx hb hK hP 1 0 rfl rfl (by first | with_reducible assumption | with_reducible exact pt_in (by with_reducible assumption) | with_reducible exact ptm_in (by with_reducible assumption) | exact LU.vin (B := 8) hm (by decide) (by with_reducible assumption) (by decide) | exact LU.vin (B := 4) hm (by decide) (by with_reducible assumption) (by decide) | exact LU.vin (B := 16) hm (by decide) (by with_reducible assumption) (by decide) | exact vp_in_nI (n := 0) (by decide) (by decide) | with_reducible exact gdm_in (by with_reducible assumption) (by with_reducible assumption) | with_reducible exact gd_in (by with_reducible assumption) (by with_reducible assumption)) dX7_cell_14 ?_
    refine hc_S (As := [.long (u.1 a0.toNatClampNeg)]) (rest := []) ⟨hx, hb, hml, hown, hts⟩ (ct_X7_of l (u.1 a0.toNatClampNeg) (by first | with_reducible assumption | with_reducible exact hsx _ (ptm_in (by with_reducible assumption)) | with_reducible exact hw _ (ptm_in (by with_reducible assumption)))) (va_cwS 1 hts gX7_cell_X7_of rfl rfl rfl (by decide +kernel) ⟨Nat.le_of_ble_eq_true rfl, Nat.le_of_ble_eq_true rfl⟩) rfl hl.1 rfl (Nat.le_of_ble_eq_true rfl) dX7_cell_15 ⟨Nat.le_of_ble_eq_true rfl, Nat.le_of_ble_eq_true rfl⟩ ?_
    refine lv_aload_n hx hb dX7_cell_18 rfl (lv_at hl 0 rfl) ?_
    refine va_get (D := (dC, dI)) (ci := 3) (v := .long u.2.2.2.2.1) (C := RX7) (T := TX7) (N := 17) hx hb hts hin7 hown hK hP 0 rfl rfl 4 (by decide) (hts (.fieldLink RX7 30 "SnapTableModel" "step" "J") (by decide +kernel)) (fun _ h9 => h9) rfl dX7_cell_19 ?_
    refine hc_S (As := [.long u.2.2.2.2.1]) (rest := [.double (mX7_of (u.1 a0.toNatClampNeg))]) ⟨hx, hb, hml, hown, hts⟩ (ct_X7_of l u.2.2.2.2.1 (by first | with_reducible assumption | with_reducible exact hsx _ (ptm_in (by with_reducible assumption)) | with_reducible exact hw _ (ptm_in (by with_reducible assumption)))) (va_cwS 1 hts gX7_cell_X7_of rfl rfl rfl (by decide +kernel) ⟨Nat.le_of_ble_eq_true rfl, Nat.le_of_ble_eq_true rfl⟩) rfl hl.1 rfl (Nat.le_of_ble_eq_true rfl) dX7_cell_22 ⟨Nat.le_of_ble_eq_true rfl, Nat.le_of_ble_eq_true rfl⟩ ?_
    refine lv_ddiv hx hb dX7_cell_25 (nn64 (hd _ (ptm_in (by with_reducible assumption)))) ?_
    refine hc_S (As := [.double (FP.ddiv (mX7_of (u.1 a0.toNatClampNeg)) (mX7_of u.2.2.2.2.1))]) (rest := []) ⟨hx, hb, hml, hown, hts⟩ (ct_X7_bits l (FP.ddiv (mX7_of (u.1 a0.toNatClampNeg)) (mX7_of u.2.2.2.2.1))) (va_cwS 1 hts gX7_cell_X7_bits rfl rfl rfl (by decide +kernel) ⟨Nat.le_of_ble_eq_true rfl, Nat.le_of_ble_eq_true rfl⟩) rfl hl.1 rfl (Nat.le_of_ble_eq_true rfl) dX7_cell_26 ⟨Nat.le_of_ble_eq_true rfl, Nat.le_of_ble_eq_true rfl⟩ ?_
    refine lv_iconst (v := (0 : Int32)) hx hb dX7_cell_29 (by decide) ?_
    refine hc_S (As := [.long (mX7_bits (FP.ddiv (mX7_of (u.1 a0.toNatClampNeg)) (mX7_of u.2.2.2.2.1))), .int (0 : Int32)]) (rest := []) ⟨hx, hb, hml, hown, hts⟩ (ct_X7_whole l (mX7_bits (FP.ddiv (mX7_of (u.1 a0.toNatClampNeg)) (mX7_of u.2.2.2.2.1))) (0 : Int32)) (va_cwS 2 hts gX7_cell_X7_whole rfl rfl rfl (by decide +kernel) ⟨Nat.le_of_ble_eq_true rfl, Nat.le_of_ble_eq_true rfl⟩) rfl hl.1 rfl (Nat.le_of_ble_eq_true rfl) dX7_cell_30 ⟨Nat.le_of_ble_eq_true rfl, Nat.le_of_ble_eq_true rfl⟩ ?_
    refine hc_S (As := [.long (mX7_whole (mX7_bits (FP.ddiv (mX7_of (u.1 a0.toNatClampNeg)) (mX7_of u.2.2.2.2.1))) (0 : Int32))]) (rest := []) ⟨hx, hb, hml, hown, hts⟩ (ct_X7_of l (mX7_whole (mX7_bits (FP.ddiv (mX7_of (u.1 a0.toNatClampNeg)) (mX7_of u.2.2.2.2.1))) (0 : Int32)) (by first | with_reducible assumption | with_reducible exact hsx _ (ptm_in (by with_reducible assumption)) | with_reducible exact hw _ (ptm_in (by with_reducible assumption)))) (va_cwS 1 hts gX7_cell_X7_of rfl rfl rfl (by decide +kernel) ⟨Nat.le_of_ble_eq_true rfl, Nat.le_of_ble_eq_true rfl⟩) rfl hl.1 rfl (Nat.le_of_ble_eq_true rfl) dX7_cell_33 ⟨Nat.le_of_ble_eq_true rfl, Nat.le_of_ble_eq_true rfl⟩ ?_
    refine hc_S (As := [.double (mX7_of (mX7_whole (mX7_bits (FP.ddiv (mX7_of (u.1 a0.toNatClampNeg)) (mX7_of u.2.2.2.2.1))) (0 : Int32)))]) (rest := []) ⟨hx, hb, hml, hown, hts⟩ (ct_X7_whole32 l (mX7_of (mX7_whole (mX7_bits (FP.ddiv (mX7_of (u.1 a0.toNatClampNeg)) (mX7_of u.2.2.2.2.1))) (0 : Int32)))) (va_cwS 1 hts gX7_cell_X7_whole32 rfl rfl rfl (by decide +kernel) ⟨Nat.le_of_ble_eq_true rfl, Nat.le_of_ble_eq_true rfl⟩) rfl hl.1 rfl (Nat.le_of_ble_eq_true rfl) dX7_cell_36 ⟨Nat.le_of_ble_eq_true rfl, Nat.le_of_ble_eq_true rfl⟩ ?_
    exact W.iret (v := (mX7_whole32 (mX7_of (mX7_whole (mX7_bits (FP.ddiv (mX7_of (u.1 a0.toNatClampNeg)) (mX7_of u.2.2.2.2.1))) (0 : Int32))))) hx hb hr (fun t ht _ => ⟨by rw [mX7_cell, if_neg c_1], ht⟩) (fun _ h => by cases h) dX7_cell_39
  · refine lv_iconst (v := (0 : Int32)) hx hb dX7_cell_7 (by decide) ?_
    exact W.iret (v := (0 : Int32)) hx hb hr (fun t ht _ => ⟨by rw [mX7_cell, if_pos c_1], ht⟩) (fun _ h => by cases h) dX7_cell_8

def mX7_mark (u : MS) (a0 : Int32) : Int64 := (if (mX7_isPoint a0) = 0 then (0 : Int64) else (mX7_whole64 (mX7_of4 (mX7_whole4 (mX7_bits4 (FP.fdiv (mX7_of4 (u.2.1 a0.toNatClampNeg)) (mX7_of4 u.2.2.2.2.2.2.2.1))) (2 : Int32)))))
set_option maxHeartbeats 4000000 in
set_option maxRecDepth 100000 in
theorem ct_X7_mark (l : Launch) (dC : Nat → ClassId) (dI : Nat → Nat → Nat) (bd : Nat → Nat) (cb : Nat → ClassId) (u : MS) (a0 : Int32) (hsy : ∀ i : Int32, vp_in i 8 → vn_sni2f (u.2.1 i.toNatClampNeg) = false) (hgr : vn_sni2f u.2.2.2.2.2.2.2.1 = false) (hf : ∀ i : Int32, vp_in i 8 → FP.fIsNaN (FP.fdiv (mX7_of4 (u.2.1 i.toNatClampNeg)) (mX7_of4 u.2.2.2.2.2.2.2.1)) = false) (hw : ∀ i : Int32, vp_in i 8 → vn_sni2f (mX7_whole4 (mX7_bits4 (FP.fdiv (mX7_of4 (u.2.1 i.toNatClampNeg)) (mX7_of4 u.2.2.2.2.2.2.2.1))) (2 : Int32)) = false) : Met l yX7_mark wsX7_mark { frames := 3, cells := 0, slots := 0, locals := 60 } (pR (dC, dI) vwCl [((cb 1), .long), ((cb 2), .int), ((cb 3), .long), ((cb 4), .boolean), ((cb 5), .int), ((cb 6), .long), ((cb 7), .int)] (WM bd cb u) [.ref (bd 0), .int a0]) (k2_QcV (.long (mX7_mark u a0))) 0 0 (fun _ => False) := by
  refine Met.ofW (cc := cX7_mark) (maxL := 2) (ret := (some .long)) (by decide) rfl ?_
  intro p e s m args below meth c s₁ B hml hv
  obtain ⟨rfl, hP, hK, hNW⟩ := hv
  have hx := B.exec
  have hb := B.bytes
  have hr := B.returns
  have hts := atoms_spec (ws := wsX7_mark) B.pre
  have hown : s.vm.findClass RX7 = some m.cls := findClass_of_methodNamed B.named
  have hlocks := B.notSynchronized
  have hin7 : ∀ w ∈ wsX70, w ∈ wsX7_mark := by decide +kernel
  have hl := lv_entry ([.ref (bd 0), .int a0]) (n := 2) (Nat.le_of_ble_eq_true rfl)
  rw [lg_entry_eq]
  generalize (lg_sl ([.ref (bd 0), .int a0]) ++ List.replicate (2 - (lg_sl ([.ref (bd 0), .int a0])).length) Slot.unset).toArray = ls at hl ⊢
  have hl : lv_has ls 2 [(0, .ref (bd 0)), (1, .int a0)] := hl
  refine lv_iload_n hx hb dX7_mark_0 rfl (lv_at hl 1 rfl) ?_
  refine hc_S (As := [.int a0]) (rest := []) ⟨hx, hb, hml, hown, hts⟩ (ct_X7_isPoint l a0) (va_cwS 1 hts gX7_mark_X7_isPoint rfl rfl rfl (by decide +kernel) ⟨Nat.le_of_ble_eq_true rfl, Nat.le_of_ble_eq_true rfl⟩) rfl hl.1 rfl (Nat.le_of_ble_eq_true rfl) dX7_mark_1 ⟨Nat.le_of_ble_eq_true rfl, Nat.le_of_ble_eq_true rfl⟩ ?_
  refine lv_if_ne (tgt := 9) hx hb dX7_mark_4 (by decide) (fun c_1 => ?_) (fun c_1 => ?_)
  · refine lv_aload_n hx hb dX7_mark_9 rfl (lv_at hl 0 rfl) ?_
    refine va_get (D := (dC, dI)) (ci := 3) (v := .ref (bd 2)) (C := RX7) (T := TX7) (N := 17) hx hb hts hin7 hown hK hP 0 rfl rfl 1 (by decide) (hts (.fieldLink RX7 13 "SnapTableModel" "ys" "[I") (by decide +kernel)) (fun _ h9 => h9) rfl dX7_mark_10 ?_
    refine lv_iload_n hx hb dX7_mark_13 rfl (lv_at hl 1 rfl) ?_
    refine va_iald hx hb hK hP 2 1 rfl rfl (by first | with_reducible assumption | with_reducible exact pt_in (by with_reducible assumption) | with_reducible exact ptm_in (by with_reducible assumption) | exact LU.vin (B := 8) hm (by decide) (by with_reducible assumption) (by decide) | exact LU.vin (B := 4) hm (by decide) (by with_reducible assumption) (by decide) | exact LU.vin (B := 16) hm (by decide) (by with_reducible assumption) (by decide) | exact vp_in_nI (n := 0) (by decide) (by decide) | with_reducible exact gdm_in (by with_reducible assumption) (by with_reducible assumption) | with_reducible exact gd_in (by with_reducible assumption) (by with_reducible assumption)) dX7_mark_14 ?_
    refine hc_S (As := [.int (u.2.1 a0.toNatClampNeg)]) (rest := []) ⟨hx, hb, hml, hown, hts⟩ (ct_X7_of4 l (u.2.1 a0.toNatClampNeg) (by first | with_reducible assumption | with_reducible exact hsy _ (ptm_in (by with_reducible assumption)) | with_reducible exact hw _ (ptm_in (by with_reducible assumption)))) (va_cwS 1 hts gX7_mark_X7_of4 rfl rfl rfl (by decide +kernel) ⟨Nat.le_of_ble_eq_true rfl, Nat.le_of_ble_eq_true rfl⟩) rfl hl.1 rfl (Nat.le_of_ble_eq_true rfl) dX7_mark_15 ⟨Nat.le_of_ble_eq_true rfl, Nat.le_of_ble_eq_true rfl⟩ ?_
    refine lv_aload_n hx hb dX7_mark_18 rfl (lv_at hl 0 rfl) ?_
    refine va_get (D := (dC, dI)) (ci := 3) (v := .int u.2.2.2.2.2.2.2.1) (C := RX7) (T := TX7) (N := 17) hx hb hts hin7 hown hK hP 0 rfl rfl 7 (by decide) (hts (.fieldLink RX7 43 "SnapTableModel" "grain" "I") (by decide +kernel)) (fun _ h9 => h9) rfl dX7_mark_19 ?_
    refine hc_S (As := [.int u.2.2.2.2.2.2.2.1]) (rest := [.float (mX7_of4 (u.2.1 a0.toNatClampNeg))]) ⟨hx, hb, hml, hown, hts⟩ (ct_X7_of4 l u.2.2.2.2.2.2.2.1 (by first | with_reducible assumption | with_reducible exact hsy _ (ptm_in (by with_reducible assumption)) | with_reducible exact hw _ (ptm_in (by with_reducible assumption)))) (va_cwS 1 hts gX7_mark_X7_of4 rfl rfl rfl (by decide +kernel) ⟨Nat.le_of_ble_eq_true rfl, Nat.le_of_ble_eq_true rfl⟩) rfl hl.1 rfl (Nat.le_of_ble_eq_true rfl) dX7_mark_22 ⟨Nat.le_of_ble_eq_true rfl, Nat.le_of_ble_eq_true rfl⟩ ?_
    refine lv_fdiv hx hb dX7_mark_25 (nn32 (hf _ (ptm_in (by with_reducible assumption)))) ?_
    refine hc_S (As := [.float (FP.fdiv (mX7_of4 (u.2.1 a0.toNatClampNeg)) (mX7_of4 u.2.2.2.2.2.2.2.1))]) (rest := []) ⟨hx, hb, hml, hown, hts⟩ (ct_X7_bits4 l (FP.fdiv (mX7_of4 (u.2.1 a0.toNatClampNeg)) (mX7_of4 u.2.2.2.2.2.2.2.1))) (va_cwS 1 hts gX7_mark_X7_bits4 rfl rfl rfl (by decide +kernel) ⟨Nat.le_of_ble_eq_true rfl, Nat.le_of_ble_eq_true rfl⟩) rfl hl.1 rfl (Nat.le_of_ble_eq_true rfl) dX7_mark_26 ⟨Nat.le_of_ble_eq_true rfl, Nat.le_of_ble_eq_true rfl⟩ ?_
    refine lv_iconst (v := (2 : Int32)) hx hb dX7_mark_29 (by decide) ?_
    refine hc_S (As := [.int (mX7_bits4 (FP.fdiv (mX7_of4 (u.2.1 a0.toNatClampNeg)) (mX7_of4 u.2.2.2.2.2.2.2.1))), .int (2 : Int32)]) (rest := []) ⟨hx, hb, hml, hown, hts⟩ (ct_X7_whole4 l (mX7_bits4 (FP.fdiv (mX7_of4 (u.2.1 a0.toNatClampNeg)) (mX7_of4 u.2.2.2.2.2.2.2.1))) (2 : Int32)) (va_cwS 2 hts gX7_mark_X7_whole4 rfl rfl rfl (by decide +kernel) ⟨Nat.le_of_ble_eq_true rfl, Nat.le_of_ble_eq_true rfl⟩) rfl hl.1 rfl (Nat.le_of_ble_eq_true rfl) dX7_mark_30 ⟨Nat.le_of_ble_eq_true rfl, Nat.le_of_ble_eq_true rfl⟩ ?_
    refine hc_S (As := [.int (mX7_whole4 (mX7_bits4 (FP.fdiv (mX7_of4 (u.2.1 a0.toNatClampNeg)) (mX7_of4 u.2.2.2.2.2.2.2.1))) (2 : Int32))]) (rest := []) ⟨hx, hb, hml, hown, hts⟩ (ct_X7_of4 l (mX7_whole4 (mX7_bits4 (FP.fdiv (mX7_of4 (u.2.1 a0.toNatClampNeg)) (mX7_of4 u.2.2.2.2.2.2.2.1))) (2 : Int32)) (by first | with_reducible assumption | with_reducible exact hsy _ (ptm_in (by with_reducible assumption)) | with_reducible exact hw _ (ptm_in (by with_reducible assumption)))) (va_cwS 1 hts gX7_mark_X7_of4 rfl rfl rfl (by decide +kernel) ⟨Nat.le_of_ble_eq_true rfl, Nat.le_of_ble_eq_true rfl⟩) rfl hl.1 rfl (Nat.le_of_ble_eq_true rfl) dX7_mark_33 ⟨Nat.le_of_ble_eq_true rfl, Nat.le_of_ble_eq_true rfl⟩ ?_
    refine hc_S (As := [.float (mX7_of4 (mX7_whole4 (mX7_bits4 (FP.fdiv (mX7_of4 (u.2.1 a0.toNatClampNeg)) (mX7_of4 u.2.2.2.2.2.2.2.1))) (2 : Int32)))]) (rest := []) ⟨hx, hb, hml, hown, hts⟩ (ct_X7_whole64 l (mX7_of4 (mX7_whole4 (mX7_bits4 (FP.fdiv (mX7_of4 (u.2.1 a0.toNatClampNeg)) (mX7_of4 u.2.2.2.2.2.2.2.1))) (2 : Int32)))) (va_cwS 1 hts gX7_mark_X7_whole64 rfl rfl rfl (by decide +kernel) ⟨Nat.le_of_ble_eq_true rfl, Nat.le_of_ble_eq_true rfl⟩) rfl hl.1 rfl (Nat.le_of_ble_eq_true rfl) dX7_mark_36 ⟨Nat.le_of_ble_eq_true rfl, Nat.le_of_ble_eq_true rfl⟩ ?_
    exact W.lret (v := (mX7_whole64 (mX7_of4 (mX7_whole4 (mX7_bits4 (FP.fdiv (mX7_of4 (u.2.1 a0.toNatClampNeg)) (mX7_of4 u.2.2.2.2.2.2.2.1))) (2 : Int32))))) hx hb hr (fun t ht _ => ⟨by rw [mX7_mark, if_neg c_1], ht⟩) (fun _ h => by cases h) dX7_mark_39
  · refine lv_lconst (v := (0 : Int64)) hx hb dX7_mark_7 (by decide) ?_
    exact W.lret (v := (0 : Int64)) hx hb hr (fun t ht _ => ⟨by rw [mX7_mark, if_pos c_1], ht⟩) (fun _ h => by cases h) dX7_mark_8

def mX7_gap (u : MS) (a0 : Int32) (a1 : Int32) : Int32 := (if (mX7_isPoint a0) = 0 then (0 : Int32) else (if (mX7_isPoint a1) = 0 then (0 : Int32) else (if 0 ≤ ((mX7_cell u a0) - (mX7_cell u a1)) then ((mX7_cell u a0) - (mX7_cell u a1)) else (-((mX7_cell u a0) - (mX7_cell u a1))))))
set_option maxHeartbeats 4000000 in
set_option maxRecDepth 100000 in
theorem ct_X7_gap (l : Launch) (dC : Nat → ClassId) (dI : Nat → Nat → Nat) (bd : Nat → Nat) (cb : Nat → ClassId) (u : MS) (a0 : Int32) (a1 : Int32) (hsx : ∀ i : Int32, vp_in i 8 → vn_snl2d (u.1 i.toNatClampNeg) = false) (hst : vn_snl2d u.2.2.2.2.1 = false) (hd : ∀ i : Int32, vp_in i 8 → FP.dIsNaN (FP.ddiv (mX7_of (u.1 i.toNatClampNeg)) (mX7_of u.2.2.2.2.1)) = false) (hw : ∀ i : Int32, vp_in i 8 → vn_snl2d (mX7_whole (mX7_bits (FP.ddiv (mX7_of (u.1 i.toNatClampNeg)) (mX7_of u.2.2.2.2.1))) (0 : Int32)) = false) : Met l yX7_gap wsX7_gap { frames := 4, cells := 0, slots := 0, locals := 84 } (pR (dC, dI) vwCl [((cb 1), .long), ((cb 2), .int), ((cb 3), .long), ((cb 4), .boolean), ((cb 5), .int), ((cb 6), .long), ((cb 7), .int)] (WM bd cb u) [.ref (bd 0), .int a0, .int a1]) (k2_QcV (.int (mX7_gap u a0 a1))) 0 0 (fun _ => False) := by
  refine Met.ofW (cc := cX7_gap) (maxL := 4) (ret := (some .int)) (by decide) rfl ?_
  intro p e s m args below meth c s₁ B hml hv
  obtain ⟨rfl, hP, hK, hNW⟩ := hv
  have hx := B.exec
  have hb := B.bytes
  have hr := B.returns
  have hts := atoms_spec (ws := wsX7_gap) B.pre
  have hown : s.vm.findClass RX7 = some m.cls := findClass_of_methodNamed B.named
  have hlocks := B.notSynchronized
  have hl := lv_entry ([.ref (bd 0), .int a0, .int a1]) (n := 4) (Nat.le_of_ble_eq_true rfl)
  rw [lg_entry_eq]
  generalize (lg_sl ([.ref (bd 0), .int a0, .int a1]) ++ List.replicate (4 - (lg_sl ([.ref (bd 0), .int a0, .int a1])).length) Slot.unset).toArray = ls at hl ⊢
  have hl : lv_has ls 4 [(0, .ref (bd 0)), (1, .int a0), (2, .int a1)] := hl
  refine lv_iload_n hx hb dX7_gap_0 rfl (lv_at hl 1 rfl) ?_
  refine hc_S (As := [.int a0]) (rest := []) ⟨hx, hb, hml, hown, hts⟩ (ct_X7_isPoint l a0) (va_cwS 1 hts gX7_gap_X7_isPoint rfl rfl rfl (by decide +kernel) ⟨Nat.le_of_ble_eq_true rfl, Nat.le_of_ble_eq_true rfl⟩) rfl hl.1 rfl (Nat.le_of_ble_eq_true rfl) dX7_gap_1 ⟨Nat.le_of_ble_eq_true rfl, Nat.le_of_ble_eq_true rfl⟩ ?_
  refine lv_if_eq (tgt := 14) hx hb dX7_gap_4 (by decide) (fun c_1 => ?_) (fun c_1 => ?_)
  · refine lv_iconst (v := (0 : Int32)) hx hb dX7_gap_14 (by decide) ?_
    exact W.iret (v := (0 : Int32)) hx hb hr (fun t ht _ => ⟨by rw [mX7_gap, if_pos c_1], ht⟩) (fun _ h => by cases h) dX7_gap_15
  · refine lv_iload_n hx hb dX7_gap_7 rfl (lv_at hl 2 rfl) ?_
    refine hc_S (As := [.int a1]) (rest := []) ⟨hx, hb, hml, hown, hts⟩ (ct_X7_isPoint l a1) (va_cwS 1 hts gX7_gap_X7_isPoint rfl rfl rfl (by decide +kernel) ⟨Nat.le_of_ble_eq_true rfl, Nat.le_of_ble_eq_true rfl⟩) rfl hl.1 rfl (Nat.le_of_ble_eq_true rfl) dX7_gap_8 ⟨Nat.le_of_ble_eq_true rfl, Nat.le_of_ble_eq_true rfl⟩ ?_
    refine lv_if_ne (tgt := 16) hx hb dX7_gap_11 (by decide) (fun c_2 => ?_) (fun c_2 => ?_)
    · refine lv_aload_n hx hb dX7_gap_16 rfl (lv_at hl 0 rfl) ?_
      refine lv_iload_n hx hb dX7_gap_17 rfl (lv_at hl 1 rfl) ?_
      refine hc_V (C := RX7) (ci := 3) (T := TX7) (N := 17) (As := [.int a0]) (rest := []) ⟨hx, hb, hml, hown, hts⟩ (ct_X7_cell l dC dI bd cb u a0 (by with_reducible assumption) (by with_reducible assumption) (by with_reducible assumption) (by with_reducible assumption)) (cwV 1 hts gX7_gap_X7_cell rfl rfl rfl (by decide +kernel) ⟨Nat.le_of_ble_eq_true rfl, Nat.le_of_ble_eq_true rfl⟩) (hw_part hP [0, 1, 2, 3, 4, 5, 6, 7] rfl) (hK.sub [0, 1, 2, 3, 4, 5, 6] rfl) hNW rfl rfl rfl hl.1 rfl (Nat.le_of_ble_eq_true rfl) dX7_gap_18 ⟨Nat.le_of_ble_eq_true rfl, Nat.le_of_ble_eq_true rfl⟩ ?_
      refine lv_aload_n hx hb dX7_gap_21 rfl (lv_at hl 0 rfl) ?_
      refine lv_iload_n hx hb dX7_gap_22 rfl (lv_at hl 2 rfl) ?_
      refine hc_V (C := RX7) (ci := 3) (T := TX7) (N := 17) (As := [.int a1]) (rest := [.int (mX7_cell u a0)]) ⟨hx, hb, hml, hown, hts⟩ (ct_X7_cell l dC dI bd cb u a1 (by with_reducible assumption) (by with_reducible assumption) (by with_reducible assumption) (by with_reducible assumption)) (cwV 1 hts gX7_gap_X7_cell rfl rfl rfl (by decide +kernel) ⟨Nat.le_of_ble_eq_true rfl, Nat.le_of_ble_eq_true rfl⟩) (hw_part hP [0, 1, 2, 3, 4, 5, 6, 7] rfl) (hK.sub [0, 1, 2, 3, 4, 5, 6] rfl) hNW rfl rfl rfl hl.1 rfl (Nat.le_of_ble_eq_true rfl) dX7_gap_23 ⟨Nat.le_of_ble_eq_true rfl, Nat.le_of_ble_eq_true rfl⟩ ?_
      refine lv_isub hx hb dX7_gap_26 ?_
      refine lv_istore_n (lv' := [(3, .int ((mX7_cell u a0) - (mX7_cell u a1))), (0, .ref (bd 0)), (1, .int a0), (2, .int a1)]) hx hb dX7_gap_27 rfl hl (by decide) rfl (fun ls hl => ?_)
      refine lv_iload_n hx hb dX7_gap_28 rfl (lv_at hl 0 rfl) ?_
      refine lv_if_ge (tgt := 37) hx hb dX7_gap_29 (by decide) (fun c_3 => ?_) (fun c_3 => ?_)
      · refine lv_iload_n hx hb dX7_gap_37 rfl (lv_at hl 0 rfl) ?_
        exact W.iret (v := ((mX7_cell u a0) - (mX7_cell u a1))) hx hb hr (fun t ht _ => ⟨by rw [mX7_gap, if_neg c_1, if_neg c_2, if_pos c_3], ht⟩) (fun _ h => by cases h) dX7_gap_38
      · refine lv_iload_n hx hb dX7_gap_32 rfl (lv_at hl 0 rfl) ?_
        refine lv_ineg hx hb dX7_gap_33 ?_
        refine lv_goto (tgt := 38) hx hb dX7_gap_34 (by decide) ?_
        exact W.iret (v := (-((mX7_cell u a0) - (mX7_cell u a1)))) hx hb hr (fun t ht _ => ⟨by rw [mX7_gap, if_neg c_1, if_neg c_2, if_neg c_3], ht⟩) (fun _ h => by cases h) dX7_gap_38
    · refine lv_iconst (v := (0 : Int32)) hx hb dX7_gap_14 (by decide) ?_
      exact W.iret (v := (0 : Int32)) hx hb hr (fun t ht _ => ⟨by rw [mX7_gap, if_neg c_1, if_pos c_2], ht⟩) (fun _ h => by cases h) dX7_gap_15

def mX7_rise (u : MS) (a0 : Int32) (a1 : Int32) : Int64 := (if (mX7_isPoint a0) = 0 then (0 : Int64) else (if (mX7_isPoint a1) = 0 then (0 : Int64) else (if 0 ≤ (lg_cmp ((mX7_mark u a0) - (mX7_mark u a1)) (0 : Int64)) then ((mX7_mark u a0) - (mX7_mark u a1)) else (-((mX7_mark u a0) - (mX7_mark u a1))))))
set_option maxHeartbeats 4000000 in
set_option maxRecDepth 100000 in
theorem ct_X7_rise (l : Launch) (dC : Nat → ClassId) (dI : Nat → Nat → Nat) (bd : Nat → Nat) (cb : Nat → ClassId) (u : MS) (a0 : Int32) (a1 : Int32) (hsy : ∀ i : Int32, vp_in i 8 → vn_sni2f (u.2.1 i.toNatClampNeg) = false) (hgr : vn_sni2f u.2.2.2.2.2.2.2.1 = false) (hf : ∀ i : Int32, vp_in i 8 → FP.fIsNaN (FP.fdiv (mX7_of4 (u.2.1 i.toNatClampNeg)) (mX7_of4 u.2.2.2.2.2.2.2.1)) = false) (hw : ∀ i : Int32, vp_in i 8 → vn_sni2f (mX7_whole4 (mX7_bits4 (FP.fdiv (mX7_of4 (u.2.1 i.toNatClampNeg)) (mX7_of4 u.2.2.2.2.2.2.2.1))) (2 : Int32)) = false) : Met l yX7_rise wsX7_rise { frames := 4, cells := 0, slots := 0, locals := 81 } (pR (dC, dI) vwCl [((cb 1), .long), ((cb 2), .int), ((cb 3), .long), ((cb 4), .boolean), ((cb 5), .int), ((cb 6), .long), ((cb 7), .int)] (WM bd cb u) [.ref (bd 0), .int a0, .int a1]) (k2_QcV (.long (mX7_rise u a0 a1))) 0 0 (fun _ => False) := by
  refine Met.ofW (cc := cX7_rise) (maxL := 5) (ret := (some .long)) (by decide) rfl ?_
  intro p e s m args below meth c s₁ B hml hv
  obtain ⟨rfl, hP, hK, hNW⟩ := hv
  have hx := B.exec
  have hb := B.bytes
  have hr := B.returns
  have hts := atoms_spec (ws := wsX7_rise) B.pre
  have hown : s.vm.findClass RX7 = some m.cls := findClass_of_methodNamed B.named
  have hlocks := B.notSynchronized
  have hl := lv_entry ([.ref (bd 0), .int a0, .int a1]) (n := 5) (Nat.le_of_ble_eq_true rfl)
  rw [lg_entry_eq]
  generalize (lg_sl ([.ref (bd 0), .int a0, .int a1]) ++ List.replicate (5 - (lg_sl ([.ref (bd 0), .int a0, .int a1])).length) Slot.unset).toArray = ls at hl ⊢
  have hl : lv_has ls 5 [(0, .ref (bd 0)), (1, .int a0), (2, .int a1)] := hl
  refine lv_iload_n hx hb dX7_rise_0 rfl (lv_at hl 1 rfl) ?_
  refine hc_S (As := [.int a0]) (rest := []) ⟨hx, hb, hml, hown, hts⟩ (ct_X7_isPoint l a0) (va_cwS 1 hts gX7_rise_X7_isPoint rfl rfl rfl (by decide +kernel) ⟨Nat.le_of_ble_eq_true rfl, Nat.le_of_ble_eq_true rfl⟩) rfl hl.1 rfl (Nat.le_of_ble_eq_true rfl) dX7_rise_1 ⟨Nat.le_of_ble_eq_true rfl, Nat.le_of_ble_eq_true rfl⟩ ?_
  refine lv_if_eq (tgt := 14) hx hb dX7_rise_4 (by decide) (fun c_1 => ?_) (fun c_1 => ?_)
  · refine lv_lconst (v := (0 : Int64)) hx hb dX7_rise_14 (by decide) ?_
    exact W.lret (v := (0 : Int64)) hx hb hr (fun t ht _ => ⟨by rw [mX7_rise, if_pos c_1], ht⟩) (fun _ h => by cases h) dX7_rise_15
  · refine lv_iload_n hx hb dX7_rise_7 rfl (lv_at hl 2 rfl) ?_
    refine hc_S (As := [.int a1]) (rest := []) ⟨hx, hb, hml, hown, hts⟩ (ct_X7_isPoint l a1) (va_cwS 1 hts gX7_rise_X7_isPoint rfl rfl rfl (by decide +kernel) ⟨Nat.le_of_ble_eq_true rfl, Nat.le_of_ble_eq_true rfl⟩) rfl hl.1 rfl (Nat.le_of_ble_eq_true rfl) dX7_rise_8 ⟨Nat.le_of_ble_eq_true rfl, Nat.le_of_ble_eq_true rfl⟩ ?_
    refine lv_if_ne (tgt := 16) hx hb dX7_rise_11 (by decide) (fun c_2 => ?_) (fun c_2 => ?_)
    · refine lv_aload_n hx hb dX7_rise_16 rfl (lv_at hl 0 rfl) ?_
      refine lv_iload_n hx hb dX7_rise_17 rfl (lv_at hl 1 rfl) ?_
      refine hc_V (C := RX7) (ci := 3) (T := TX7) (N := 17) (As := [.int a0]) (rest := []) ⟨hx, hb, hml, hown, hts⟩ (ct_X7_mark l dC dI bd cb u a0 (by with_reducible assumption) (by with_reducible assumption) (by with_reducible assumption) (by with_reducible assumption)) (cwV 1 hts gX7_rise_X7_mark rfl rfl rfl (by decide +kernel) ⟨Nat.le_of_ble_eq_true rfl, Nat.le_of_ble_eq_true rfl⟩) (hw_part hP [0, 1, 2, 3, 4, 5, 6, 7] rfl) (hK.sub [0, 1, 2, 3, 4, 5, 6] rfl) hNW rfl rfl rfl hl.1 rfl (Nat.le_of_ble_eq_true rfl) dX7_rise_18 ⟨Nat.le_of_ble_eq_true rfl, Nat.le_of_ble_eq_true rfl⟩ ?_
      refine lv_aload_n hx hb dX7_rise_21 rfl (lv_at hl 0 rfl) ?_
      refine lv_iload_n hx hb dX7_rise_22 rfl (lv_at hl 2 rfl) ?_
      refine hc_V (C := RX7) (ci := 3) (T := TX7) (N := 17) (As := [.int a1]) (rest := [.long (mX7_mark u a0)]) ⟨hx, hb, hml, hown, hts⟩ (ct_X7_mark l dC dI bd cb u a1 (by with_reducible assumption) (by with_reducible assumption) (by with_reducible assumption) (by with_reducible assumption)) (cwV 1 hts gX7_rise_X7_mark rfl rfl rfl (by decide +kernel) ⟨Nat.le_of_ble_eq_true rfl, Nat.le_of_ble_eq_true rfl⟩) (hw_part hP [0, 1, 2, 3, 4, 5, 6, 7] rfl) (hK.sub [0, 1, 2, 3, 4, 5, 6] rfl) hNW rfl rfl rfl hl.1 rfl (Nat.le_of_ble_eq_true rfl) dX7_rise_23 ⟨Nat.le_of_ble_eq_true rfl, Nat.le_of_ble_eq_true rfl⟩ ?_
      refine lv_lsub hx hb dX7_rise_26 ?_
      refine lv_lstore_n (lv' := [(3, .long ((mX7_mark u a0) - (mX7_mark u a1))), (0, .ref (bd 0)), (1, .int a0), (2, .int a1)]) hx hb dX7_rise_27 rfl hl (by decide) rfl (fun ls hl => ?_)
      refine lv_lload_n hx hb dX7_rise_28 rfl (lv_at hl 0 rfl) ?_
      refine lv_lconst (v := (0 : Int64)) hx hb dX7_rise_29 (by decide) ?_
      refine W.lcmp hx hb dX7_rise_30 ?_
      refine lv_if_ge (tgt := 39) hx hb dX7_rise_31 (by decide) (fun c_3 => ?_) (fun c_3 => ?_)
      · refine lv_lload_n hx hb dX7_rise_39 rfl (lv_at hl 0 rfl) ?_
        exact W.lret (v := ((mX7_mark u a0) - (mX7_mark u a1))) hx hb hr (fun t ht _ => ⟨by rw [mX7_rise, if_neg c_1, if_neg c_2, if_pos c_3], ht⟩) (fun _ h => by cases h) dX7_rise_40
      · refine lv_lload_n hx hb dX7_rise_34 rfl (lv_at hl 0 rfl) ?_
        refine lv_lneg hx hb dX7_rise_35 ?_
        refine lv_goto (tgt := 40) hx hb dX7_rise_36 (by decide) ?_
        exact W.lret (v := (-((mX7_mark u a0) - (mX7_mark u a1)))) hx hb hr (fun t ht _ => ⟨by rw [mX7_rise, if_neg c_1, if_neg c_2, if_neg c_3], ht⟩) (fun _ h => by cases h) dX7_rise_40
    · refine lv_lconst (v := (0 : Int64)) hx hb dX7_rise_14 (by decide) ?_
      exact W.lret (v := (0 : Int64)) hx hb hr (fun t ht _ => ⟨by rw [mX7_rise, if_neg c_1, if_pos c_2], ht⟩) (fun _ h => by cases h) dX7_rise_15

def mX7_column_L (u : MS) (a0 : Int32) : Nat → Int32 → Int32 → Int32
  | 0, _, _ => default
  | n + 1, w, i => (if (8 : Int32) ≤ i then w else (if a0 = 0 then (if (mX7_cell u i) ≤ w then (mX7_column_L u a0 n w (i + 1)) else (mX7_column_L u a0 n (mX7_cell u i) (i + 1))) else (if w ≤ (mX7_cell u i) then (mX7_column_L u a0 n w (i + 1)) else (mX7_column_L u a0 n (mX7_cell u i) (i + 1)))))
def mX7_column (u : MS) (a0 : Int32) : Int32 := (if a0 < 0 then (0 : Int32) else (if a0 ≤ (1 : Int32) then (mX7_column_L u a0 8 (mX7_cell u (0 : Int32)) (1 : Int32)) else (0 : Int32)))
set_option maxHeartbeats 4000000 in
set_option maxRecDepth 100000 in
theorem ct_X7_column (l : Launch) (dC : Nat → ClassId) (dI : Nat → Nat → Nat) (bd : Nat → Nat) (cb : Nat → ClassId) (u : MS) (a0 : Int32) (hsx : ∀ i : Int32, vp_in i 8 → vn_snl2d (u.1 i.toNatClampNeg) = false) (hst : vn_snl2d u.2.2.2.2.1 = false) (hd : ∀ i : Int32, vp_in i 8 → FP.dIsNaN (FP.ddiv (mX7_of (u.1 i.toNatClampNeg)) (mX7_of u.2.2.2.2.1)) = false) (hw : ∀ i : Int32, vp_in i 8 → vn_snl2d (mX7_whole (mX7_bits (FP.ddiv (mX7_of (u.1 i.toNatClampNeg)) (mX7_of u.2.2.2.2.1))) (0 : Int32)) = false) : Met l yX7_column wsX7_column { frames := 4, cells := 0, slots := 0, locals := 84 } (pR (dC, dI) vwCl [((cb 1), .long), ((cb 2), .int), ((cb 3), .long), ((cb 4), .boolean), ((cb 5), .int), ((cb 6), .long), ((cb 7), .int)] (WM bd cb u) [.ref (bd 0), .int a0]) (k2_QcV (.int (mX7_column u a0))) 0 0 (fun _ => False) := by
  refine Met.ofW (cc := cX7_column) (maxL := 5) (ret := (some .int)) (by decide) rfl ?_
  intro p e s m args below meth c s₁ B hml hv
  obtain ⟨rfl, hP, hK, hNW⟩ := hv
  have hx := B.exec
  have hb := B.bytes
  have hr := B.returns
  have hts := atoms_spec (ws := wsX7_column) B.pre
  have hown : s.vm.findClass RX7 = some m.cls := findClass_of_methodNamed B.named
  have hlocks := B.notSynchronized
  have hl := lv_entry ([.ref (bd 0), .int a0]) (n := 5) (Nat.le_of_ble_eq_true rfl)
  rw [lg_entry_eq]
  generalize (lg_sl ([.ref (bd 0), .int a0]) ++ List.replicate (5 - (lg_sl ([.ref (bd 0), .int a0])).length) Slot.unset).toArray = ls at hl ⊢
  have hl : lv_has ls 5 [(0, .ref (bd 0)), (1, .int a0)] := hl
  refine lv_iload_n hx hb dX7_column_0 rfl (lv_at hl 1 rfl) ?_
  refine lv_if_lt (tgt := 9) hx hb dX7_column_1 (by decide) (fun c_1 => ?_) (fun c_1 => ?_)
  · refine lv_iconst (v := (0 : Int32)) hx hb dX7_column_9 (by decide) ?_
    exact W.iret (v := (0 : Int32)) hx hb hr (fun t ht _ => ⟨by rw [mX7_column, if_pos c_1], ht⟩) (fun _ h => by cases h) dX7_column_10
  · refine lv_iload_n hx hb dX7_column_4 rfl (lv_at hl 1 rfl) ?_
    refine lv_iconst (v := (1 : Int32)) hx hb dX7_column_5 (by decide) ?_
    refine lv_icmp_le (tgt := 11) hx hb dX7_column_6 (by decide) (fun c_2 => ?_) (fun c_2 => ?_)
    · refine lv_aload_n hx hb dX7_column_11 rfl (lv_at hl 0 rfl) ?_
      refine lv_iconst (v := (0 : Int32)) hx hb dX7_column_12 (by decide) ?_
      refine hc_V (C := RX7) (ci := 3) (T := TX7) (N := 17) (As := [.int (0 : Int32)]) (rest := []) ⟨hx, hb, hml, hown, hts⟩ (ct_X7_cell l dC dI bd cb u (0 : Int32) (by with_reducible assumption) (by with_reducible assumption) (by with_reducible assumption) (by with_reducible assumption)) (cwV 1 hts gX7_column_X7_cell rfl rfl rfl (by decide +kernel) ⟨Nat.le_of_ble_eq_true rfl, Nat.le_of_ble_eq_true rfl⟩) (hw_part hP [0, 1, 2, 3, 4, 5, 6, 7] rfl) (hK.sub [0, 1, 2, 3, 4, 5, 6] rfl) hNW rfl rfl rfl hl.1 rfl (Nat.le_of_ble_eq_true rfl) dX7_column_13 ⟨Nat.le_of_ble_eq_true rfl, Nat.le_of_ble_eq_true rfl⟩ ?_
      refine lv_istore_n (lv' := [(2, .int (mX7_cell u (0 : Int32))), (0, .ref (bd 0)), (1, .int a0)]) hx hb dX7_column_16 rfl hl (by decide) rfl (fun ls hl => ?_)
      refine lv_iconst (v := (1 : Int32)) hx hb dX7_column_17 (by decide) ?_
      refine lv_istore_n (lv' := [(3, .int (1 : Int32)), (2, .int (mX7_cell u (0 : Int32))), (0, .ref (bd 0)), (1, .int a0)]) hx hb dX7_column_18 rfl hl (by decide) rfl (fun ls hl => ?_)
      have loop : ∀ (n : Nat) (w : Int32) (i : Int32) (ls : Array Slot), LU 8 n i → mX7_column_L u a0 n w i = mX7_column u a0 → lv_has ls 5 [(2, .int w), (3, .int i), (0, .ref (bd 0)), (1, .int a0)] → W p l e (headSpec wsX7_column { frames := 4, cells := 0, slots := 0, locals := 84 }).room s m ([.ref (bd 0), .int a0] : List Value).toArray below meth c s.heap [] 0 0 (MQ below (k2_QcV (.int (mX7_column u a0))) ([.ref (bd 0), .int a0] : List Value).toArray s 0 0 (fun _ => False)) (F0 m 19 ls []) := by
        intro n
        induction n with
        | zero => intro w i ls hm; exact absurd hm (fun h => h.z)
        | succ n ih =>
          intro w i ls hm  heq hl
          refine lv_iload_n hx hb dX7_column_19 rfl (lv_at hl 1 rfl) ?_
          refine lv_bipush (v := (8 : Int32)) hx hb dX7_column_20 (by decide) ?_
          refine lv_icmp_ge (tgt := 60) hx hb dX7_column_22 (by decide) (fun c_3 => ?_) (fun c_3 => ?_)
          · refine lv_iload_n hx hb dX7_column_60 rfl (lv_at hl 0 rfl) ?_
            exact W.iret (v := w) hx hb hr (fun t ht _ => ⟨by rw [← heq, mX7_column_L, if_pos c_3], ht⟩) (fun _ h => by cases h) dX7_column_61
          · refine lv_aload_n hx hb dX7_column_25 rfl (lv_at hl 2 rfl) ?_
            refine lv_iload_n hx hb dX7_column_26 rfl (lv_at hl 1 rfl) ?_
            refine hc_V (C := RX7) (ci := 3) (T := TX7) (N := 17) (As := [.int i]) (rest := []) ⟨hx, hb, hml, hown, hts⟩ (ct_X7_cell l dC dI bd cb u i (by with_reducible assumption) (by with_reducible assumption) (by with_reducible assumption) (by with_reducible assumption)) (cwV 1 hts gX7_column_X7_cell rfl rfl rfl (by decide +kernel) ⟨Nat.le_of_ble_eq_true rfl, Nat.le_of_ble_eq_true rfl⟩) (hw_part hP [0, 1, 2, 3, 4, 5, 6, 7] rfl) (hK.sub [0, 1, 2, 3, 4, 5, 6] rfl) hNW rfl rfl rfl hl.1 rfl (Nat.le_of_ble_eq_true rfl) dX7_column_27 ⟨Nat.le_of_ble_eq_true rfl, Nat.le_of_ble_eq_true rfl⟩ ?_
            refine lv_istore (lv' := [(4, .int (mX7_cell u i)), (2, .int w), (3, .int i), (0, .ref (bd 0)), (1, .int a0)]) hx hb dX7_column_30 hl (by decide) rfl (fun ls hl => ?_)
            refine lv_iload_n hx hb dX7_column_32 rfl (lv_at hl 4 rfl) ?_
            refine lv_if_ne (tgt := 45) hx hb dX7_column_33 (by decide) (fun c_4 => ?_) (fun c_4 => ?_)
            · refine lv_iload hx hb dX7_column_45 (lv_at hl 0 rfl) ?_
              refine lv_iload_n hx hb dX7_column_47 rfl (lv_at hl 1 rfl) ?_
              refine lv_icmp_ge (tgt := 54) hx hb dX7_column_48 (by decide) (fun c_5 => ?_) (fun c_5 => ?_)
              · refine lv_iinc (v := (i + 1)) (lv' := [(3, .int (i + 1)), (4, .int (mX7_cell u i)), (2, .int w), (0, .ref (bd 0)), (1, .int a0)]) hx hb dX7_column_54 hl (k := 2) rfl rfl (by decide) rfl (fun ls hl => ?_)
                refine lv_goto (tgt := 19) hx hb dX7_column_57 (by decide) ?_
                exact ih w (i + 1) ls (LU.up (B := 8) (by decide) hm (by with_reducible assumption))  (by rw [← heq, mX7_column_L, if_neg c_3, if_neg c_4, if_pos c_5]) (lv_sub hl [2, 0, 3, 4] rfl)
              · refine lv_iload hx hb dX7_column_51 (lv_at hl 0 rfl) ?_
                refine lv_istore_n (lv' := [(2, .int (mX7_cell u i)), (4, .int (mX7_cell u i)), (3, .int i), (0, .ref (bd 0)), (1, .int a0)]) hx hb dX7_column_53 rfl hl (by decide) rfl (fun ls hl => ?_)
                refine lv_iinc (v := (i + 1)) (lv' := [(3, .int (i + 1)), (2, .int (mX7_cell u i)), (4, .int (mX7_cell u i)), (0, .ref (bd 0)), (1, .int a0)]) hx hb dX7_column_54 hl (k := 2) rfl rfl (by decide) rfl (fun ls hl => ?_)
                refine lv_goto (tgt := 19) hx hb dX7_column_57 (by decide) ?_
                exact ih (mX7_cell u i) (i + 1) ls (LU.up (B := 8) (by decide) hm (by with_reducible assumption))  (by rw [← heq, mX7_column_L, if_neg c_3, if_neg c_4, if_neg c_5]) (lv_sub hl [1, 0, 3, 4] rfl)
            · refine lv_iload hx hb dX7_column_36 (lv_at hl 0 rfl) ?_
              refine lv_iload_n hx hb dX7_column_38 rfl (lv_at hl 1 rfl) ?_
              refine lv_icmp_le (tgt := 54) hx hb dX7_column_39 (by decide) (fun c_6 => ?_) (fun c_6 => ?_)
              · refine lv_iinc (v := (i + 1)) (lv' := [(3, .int (i + 1)), (4, .int (mX7_cell u i)), (2, .int w), (0, .ref (bd 0)), (1, .int a0)]) hx hb dX7_column_54 hl (k := 2) rfl rfl (by decide) rfl (fun ls hl => ?_)
                refine lv_goto (tgt := 19) hx hb dX7_column_57 (by decide) ?_
                exact ih w (i + 1) ls (LU.up (B := 8) (by decide) hm (by with_reducible assumption))  (by rw [← heq, mX7_column_L, if_neg c_3, if_pos c_4, if_pos c_6]) (lv_sub hl [2, 0, 3, 4] rfl)
              · refine lv_goto (tgt := 51) hx hb dX7_column_42 (by decide) ?_
                refine lv_iload hx hb dX7_column_51 (lv_at hl 0 rfl) ?_
                refine lv_istore_n (lv' := [(2, .int (mX7_cell u i)), (4, .int (mX7_cell u i)), (3, .int i), (0, .ref (bd 0)), (1, .int a0)]) hx hb dX7_column_53 rfl hl (by decide) rfl (fun ls hl => ?_)
                refine lv_iinc (v := (i + 1)) (lv' := [(3, .int (i + 1)), (2, .int (mX7_cell u i)), (4, .int (mX7_cell u i)), (0, .ref (bd 0)), (1, .int a0)]) hx hb dX7_column_54 hl (k := 2) rfl rfl (by decide) rfl (fun ls hl => ?_)
                refine lv_goto (tgt := 19) hx hb dX7_column_57 (by decide) ?_
                exact ih (mX7_cell u i) (i + 1) ls (LU.up (B := 8) (by decide) hm (by with_reducible assumption))  (by rw [← heq, mX7_column_L, if_neg c_3, if_pos c_4, if_neg c_6]) (lv_sub hl [1, 0, 3, 4] rfl)
      exact loop 8 (mX7_cell u (0 : Int32)) (1 : Int32) ls (by unfold LU; decide)  (by rw [mX7_column, if_neg c_1, if_pos c_2]) (lv_sub hl [1, 0, 2, 3] rfl)
    · refine lv_iconst (v := (0 : Int32)) hx hb dX7_column_9 (by decide) ?_
      exact W.iret (v := (0 : Int32)) hx hb hr (fun t ht _ => ⟨by rw [mX7_column, if_neg c_1, if_neg c_2], ht⟩) (fun _ h => by cases h) dX7_column_10

def mX7_row_L (u : MS) (a0 : Int32) : Nat → Int64 → Int32 → Int64
  | 0, _, _ => default
  | n + 1, w, i => (if (8 : Int32) ≤ i then w else (if a0 = 0 then (if (lg_cmp (mX7_mark u i) w) ≤ 0 then (mX7_row_L u a0 n w (i + 1)) else (mX7_row_L u a0 n (mX7_mark u i) (i + 1))) else (if 0 ≤ (lg_cmp (mX7_mark u i) w) then (mX7_row_L u a0 n w (i + 1)) else (mX7_row_L u a0 n (mX7_mark u i) (i + 1)))))
def mX7_row (u : MS) (a0 : Int32) : Int64 := (if a0 < 0 then (0 : Int64) else (if a0 ≤ (1 : Int32) then (mX7_row_L u a0 8 (mX7_mark u (0 : Int32)) (1 : Int32)) else (0 : Int64)))
set_option maxHeartbeats 4000000 in
set_option maxRecDepth 100000 in
theorem ct_X7_row (l : Launch) (dC : Nat → ClassId) (dI : Nat → Nat → Nat) (bd : Nat → Nat) (cb : Nat → ClassId) (u : MS) (a0 : Int32) (hsy : ∀ i : Int32, vp_in i 8 → vn_sni2f (u.2.1 i.toNatClampNeg) = false) (hgr : vn_sni2f u.2.2.2.2.2.2.2.1 = false) (hf : ∀ i : Int32, vp_in i 8 → FP.fIsNaN (FP.fdiv (mX7_of4 (u.2.1 i.toNatClampNeg)) (mX7_of4 u.2.2.2.2.2.2.2.1)) = false) (hw : ∀ i : Int32, vp_in i 8 → vn_sni2f (mX7_whole4 (mX7_bits4 (FP.fdiv (mX7_of4 (u.2.1 i.toNatClampNeg)) (mX7_of4 u.2.2.2.2.2.2.2.1))) (2 : Int32)) = false) : Met l yX7_row wsX7_row { frames := 4, cells := 0, slots := 0, locals := 81 } (pR (dC, dI) vwCl [((cb 1), .long), ((cb 2), .int), ((cb 3), .long), ((cb 4), .boolean), ((cb 5), .int), ((cb 6), .long), ((cb 7), .int)] (WM bd cb u) [.ref (bd 0), .int a0]) (k2_QcV (.long (mX7_row u a0))) 0 0 (fun _ => False) := by
  refine Met.ofW (cc := cX7_row) (maxL := 7) (ret := (some .long)) (by decide) rfl ?_
  intro p e s m args below meth c s₁ B hml hv
  obtain ⟨rfl, hP, hK, hNW⟩ := hv
  have hx := B.exec
  have hb := B.bytes
  have hr := B.returns
  have hts := atoms_spec (ws := wsX7_row) B.pre
  have hown : s.vm.findClass RX7 = some m.cls := findClass_of_methodNamed B.named
  have hlocks := B.notSynchronized
  have hl := lv_entry ([.ref (bd 0), .int a0]) (n := 7) (Nat.le_of_ble_eq_true rfl)
  rw [lg_entry_eq]
  generalize (lg_sl ([.ref (bd 0), .int a0]) ++ List.replicate (7 - (lg_sl ([.ref (bd 0), .int a0])).length) Slot.unset).toArray = ls at hl ⊢
  have hl : lv_has ls 7 [(0, .ref (bd 0)), (1, .int a0)] := hl
  refine lv_iload_n hx hb dX7_row_0 rfl (lv_at hl 1 rfl) ?_
  refine lv_if_lt (tgt := 9) hx hb dX7_row_1 (by decide) (fun c_1 => ?_) (fun c_1 => ?_)
  · refine lv_lconst (v := (0 : Int64)) hx hb dX7_row_9 (by decide) ?_
    exact W.lret (v := (0 : Int64)) hx hb hr (fun t ht _ => ⟨by rw [mX7_row, if_pos c_1], ht⟩) (fun _ h => by cases h) dX7_row_10
  · refine lv_iload_n hx hb dX7_row_4 rfl (lv_at hl 1 rfl) ?_
    refine lv_iconst (v := (1 : Int32)) hx hb dX7_row_5 (by decide) ?_
    refine lv_icmp_le (tgt := 11) hx hb dX7_row_6 (by decide) (fun c_2 => ?_) (fun c_2 => ?_)
    · refine lv_aload_n hx hb dX7_row_11 rfl (lv_at hl 0 rfl) ?_
      refine lv_iconst (v := (0 : Int32)) hx hb dX7_row_12 (by decide) ?_
      refine hc_V (C := RX7) (ci := 3) (T := TX7) (N := 17) (As := [.int (0 : Int32)]) (rest := []) ⟨hx, hb, hml, hown, hts⟩ (ct_X7_mark l dC dI bd cb u (0 : Int32) (by with_reducible assumption) (by with_reducible assumption) (by with_reducible assumption) (by with_reducible assumption)) (cwV 1 hts gX7_row_X7_mark rfl rfl rfl (by decide +kernel) ⟨Nat.le_of_ble_eq_true rfl, Nat.le_of_ble_eq_true rfl⟩) (hw_part hP [0, 1, 2, 3, 4, 5, 6, 7] rfl) (hK.sub [0, 1, 2, 3, 4, 5, 6] rfl) hNW rfl rfl rfl hl.1 rfl (Nat.le_of_ble_eq_true rfl) dX7_row_13 ⟨Nat.le_of_ble_eq_true rfl, Nat.le_of_ble_eq_true rfl⟩ ?_
      refine lv_lstore_n (lv' := [(2, .long (mX7_mark u (0 : Int32))), (0, .ref (bd 0)), (1, .int a0)]) hx hb dX7_row_16 rfl hl (by decide) rfl (fun ls hl => ?_)
      refine lv_iconst (v := (1 : Int32)) hx hb dX7_row_17 (by decide) ?_
      refine lv_istore (lv' := [(4, .int (1 : Int32)), (2, .long (mX7_mark u (0 : Int32))), (0, .ref (bd 0)), (1, .int a0)]) hx hb dX7_row_18 hl (by decide) rfl (fun ls hl => ?_)
      have loop : ∀ (n : Nat) (w : Int64) (i : Int32) (ls : Array Slot), LU 8 n i → mX7_row_L u a0 n w i = mX7_row u a0 → lv_has ls 7 [(2, .long w), (4, .int i), (0, .ref (bd 0)), (1, .int a0)] → W p l e (headSpec wsX7_row { frames := 4, cells := 0, slots := 0, locals := 81 }).room s m ([.ref (bd 0), .int a0] : List Value).toArray below meth c s.heap [] 0 0 (MQ below (k2_QcV (.long (mX7_row u a0))) ([.ref (bd 0), .int a0] : List Value).toArray s 0 0 (fun _ => False)) (F0 m 20 ls []) := by
        intro n
        induction n with
        | zero => intro w i ls hm; exact absurd hm (fun h => h.z)
        | succ n ih =>
          intro w i ls hm  heq hl
          refine lv_iload hx hb dX7_row_20 (lv_at hl 1 rfl) ?_
          refine lv_bipush (v := (8 : Int32)) hx hb dX7_row_22 (by decide) ?_
          refine lv_icmp_ge (tgt := 65) hx hb dX7_row_24 (by decide) (fun c_3 => ?_) (fun c_3 => ?_)
          · refine lv_lload_n hx hb dX7_row_65 rfl (lv_at hl 0 rfl) ?_
            exact W.lret (v := w) hx hb hr (fun t ht _ => ⟨by rw [← heq, mX7_row_L, if_pos c_3], ht⟩) (fun _ h => by cases h) dX7_row_66
          · refine lv_aload_n hx hb dX7_row_27 rfl (lv_at hl 2 rfl) ?_
            refine lv_iload hx hb dX7_row_28 (lv_at hl 1 rfl) ?_
            refine hc_V (C := RX7) (ci := 3) (T := TX7) (N := 17) (As := [.int i]) (rest := []) ⟨hx, hb, hml, hown, hts⟩ (ct_X7_mark l dC dI bd cb u i (by with_reducible assumption) (by with_reducible assumption) (by with_reducible assumption) (by with_reducible assumption)) (cwV 1 hts gX7_row_X7_mark rfl rfl rfl (by decide +kernel) ⟨Nat.le_of_ble_eq_true rfl, Nat.le_of_ble_eq_true rfl⟩) (hw_part hP [0, 1, 2, 3, 4, 5, 6, 7] rfl) (hK.sub [0, 1, 2, 3, 4, 5, 6] rfl) hNW rfl rfl rfl hl.1 rfl (Nat.le_of_ble_eq_true rfl) dX7_row_30 ⟨Nat.le_of_ble_eq_true rfl, Nat.le_of_ble_eq_true rfl⟩ ?_
            refine lv_lstore (lv' := [(5, .long (mX7_mark u i)), (2, .long w), (4, .int i), (0, .ref (bd 0)), (1, .int a0)]) hx hb dX7_row_33 hl (by decide) rfl (fun ls hl => ?_)
            refine lv_iload_n hx hb dX7_row_35 rfl (lv_at hl 4 rfl) ?_
            refine lv_if_ne (tgt := 49) hx hb dX7_row_36 (by decide) (fun c_4 => ?_) (fun c_4 => ?_)
            · refine lv_lload hx hb dX7_row_49 (lv_at hl 0 rfl) ?_
              refine lv_lload_n hx hb dX7_row_51 rfl (lv_at hl 1 rfl) ?_
              refine W.lcmp hx hb dX7_row_52 ?_
              refine lv_if_ge (tgt := 59) hx hb dX7_row_53 (by decide) (fun c_5 => ?_) (fun c_5 => ?_)
              · refine lv_iinc (v := (i + 1)) (lv' := [(4, .int (i + 1)), (5, .long (mX7_mark u i)), (2, .long w), (0, .ref (bd 0)), (1, .int a0)]) hx hb dX7_row_59 hl (k := 2) rfl rfl (by decide) rfl (fun ls hl => ?_)
                refine lv_goto (tgt := 20) hx hb dX7_row_62 (by decide) ?_
                exact ih w (i + 1) ls (LU.up (B := 8) (by decide) hm (by with_reducible assumption))  (by rw [← heq, mX7_row_L, if_neg c_3, if_neg c_4, if_pos c_5]) (lv_sub hl [2, 0, 3, 4] rfl)
              · refine lv_lload hx hb dX7_row_56 (lv_at hl 0 rfl) ?_
                refine lv_lstore_n (lv' := [(2, .long (mX7_mark u i)), (5, .long (mX7_mark u i)), (4, .int i), (0, .ref (bd 0)), (1, .int a0)]) hx hb dX7_row_58 rfl hl (by decide) rfl (fun ls hl => ?_)
                refine lv_iinc (v := (i + 1)) (lv' := [(4, .int (i + 1)), (2, .long (mX7_mark u i)), (5, .long (mX7_mark u i)), (0, .ref (bd 0)), (1, .int a0)]) hx hb dX7_row_59 hl (k := 2) rfl rfl (by decide) rfl (fun ls hl => ?_)
                refine lv_goto (tgt := 20) hx hb dX7_row_62 (by decide) ?_
                exact ih (mX7_mark u i) (i + 1) ls (LU.up (B := 8) (by decide) hm (by with_reducible assumption))  (by rw [← heq, mX7_row_L, if_neg c_3, if_neg c_4, if_neg c_5]) (lv_sub hl [1, 0, 3, 4] rfl)
            · refine lv_lload hx hb dX7_row_39 (lv_at hl 0 rfl) ?_
              refine lv_lload_n hx hb dX7_row_41 rfl (lv_at hl 1 rfl) ?_
              refine W.lcmp hx hb dX7_row_42 ?_
              refine lv_if_le (tgt := 59) hx hb dX7_row_43 (by decide) (fun c_6 => ?_) (fun c_6 => ?_)
              · refine lv_iinc (v := (i + 1)) (lv' := [(4, .int (i + 1)), (5, .long (mX7_mark u i)), (2, .long w), (0, .ref (bd 0)), (1, .int a0)]) hx hb dX7_row_59 hl (k := 2) rfl rfl (by decide) rfl (fun ls hl => ?_)
                refine lv_goto (tgt := 20) hx hb dX7_row_62 (by decide) ?_
                exact ih w (i + 1) ls (LU.up (B := 8) (by decide) hm (by with_reducible assumption))  (by rw [← heq, mX7_row_L, if_neg c_3, if_pos c_4, if_pos c_6]) (lv_sub hl [2, 0, 3, 4] rfl)
              · refine lv_goto (tgt := 56) hx hb dX7_row_46 (by decide) ?_
                refine lv_lload hx hb dX7_row_56 (lv_at hl 0 rfl) ?_
                refine lv_lstore_n (lv' := [(2, .long (mX7_mark u i)), (5, .long (mX7_mark u i)), (4, .int i), (0, .ref (bd 0)), (1, .int a0)]) hx hb dX7_row_58 rfl hl (by decide) rfl (fun ls hl => ?_)
                refine lv_iinc (v := (i + 1)) (lv' := [(4, .int (i + 1)), (2, .long (mX7_mark u i)), (5, .long (mX7_mark u i)), (0, .ref (bd 0)), (1, .int a0)]) hx hb dX7_row_59 hl (k := 2) rfl rfl (by decide) rfl (fun ls hl => ?_)
                refine lv_goto (tgt := 20) hx hb dX7_row_62 (by decide) ?_
                exact ih (mX7_mark u i) (i + 1) ls (LU.up (B := 8) (by decide) hm (by with_reducible assumption))  (by rw [← heq, mX7_row_L, if_neg c_3, if_pos c_4, if_neg c_6]) (lv_sub hl [1, 0, 3, 4] rfl)
      exact loop 8 (mX7_mark u (0 : Int32)) (1 : Int32) ls (by unfold LU; decide)  (by rw [mX7_row, if_neg c_1, if_pos c_2]) (lv_sub hl [1, 0, 2, 3] rfl)
    · refine lv_lconst (v := (0 : Int64)) hx hb dX7_row_9 (by decide) ?_
      exact W.lret (v := (0 : Int64)) hx hb hr (fun t ht _ => ⟨by rw [mX7_row, if_neg c_1, if_neg c_2], ht⟩) (fun _ h => by cases h) dX7_row_10
