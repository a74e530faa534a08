theorem apart_w_nn {u : AS} {a b : Int64} (h : FP.dIsNaN (FP.dsub (mX1_value a) (mX1_value b)) = false) : FP.dIsNaN (mX0_apart_w u a b) = false := by
  rw [mX0_apart_w]
  split
  · exact h
  · rw [Jvm.FP.dneg_nan]; exact h
theorem apart_h_nn {u : AS} {a b : Int64} (h : FP.fIsNaN (FP.fsub (FP.d2f (mX1_value a)) (FP.d2f (mX1_value b))) = false) : FP.dIsNaN (mX0_apart_h u a b) = false := by
  rw [mX0_apart_h]
  split
  · exact dn_f2d h
  · rw [Jvm.FP.dneg_nan]; exact dn_f2d h

def mX6_distance (u : TS) (a0 : Int32) (a1 : Int32) : UInt64 := (if (Op.cmpValue (FP.dcmp (mX0_apart_w u.2.2.2.1 (u.2.2.2.1.2.2.2 a0.toNatClampNeg) (u.2.2.2.1.2.2.2 a1.toNatClampNeg)) (mX0_apart_h u.2.2.2.2.1 (u.2.2.2.2.1.2.2.2 a0.toNatClampNeg) (u.2.2.2.2.1.2.2.2 a1.toNatClampNeg))) .l) < 0 then (mX0_apart_h u.2.2.2.2.1 (u.2.2.2.2.1.2.2.2 a0.toNatClampNeg) (u.2.2.2.2.1.2.2.2 a1.toNatClampNeg)) else (mX0_apart_w u.2.2.2.1 (u.2.2.2.1.2.2.2 a0.toNatClampNeg) (u.2.2.2.1.2.2.2 a1.toNatClampNeg)))
set_option maxHeartbeats 4000000 in
set_option maxRecDepth 100000 in
theorem ct_X6_distance (l : Launch) (dC : Nat → ClassId) (dI : Nat → Nat → Nat) (ad : Nat → Nat) (ca : Nat → ClassId) (u : TS) (a0 : Int32) (a1 : Int32) (hk : vp_in a0 8) (hj : vp_in a1 8) (hW : FP.dIsNaN (FP.dsub (mX1_value (u.2.2.2.1.2.2.2 a0.toNatClampNeg)) (mX1_value (u.2.2.2.1.2.2.2 a1.toNatClampNeg))) = false) (hH : FP.fIsNaN (FP.fsub (FP.d2f (mX1_value (u.2.2.2.2.1.2.2.2 a0.toNatClampNeg))) (FP.d2f (mX1_value (u.2.2.2.2.1.2.2.2 a1.toNatClampNeg)))) = false) : Met l yX6_distance wsX6_distance { frames := 5, cells := 0, slots := 0, locals := 123 } (pR (dC, dI) vwCl [((ca 4), .long), ((ca 5), .long), ((ca 6), .long), ((ca 7), .int), ((ca 8), .long), ((ca 9), .long)] (WT ad ca u) [.ref (ad 0), .int a0, .int a1]) (k2_QcV (.double (mX6_distance u a0 a1))) 0 0 (fun _ => False) := by
  refine Met.ofW (cc := cX6_distance) (maxL := 7) (ret := (some .double)) (by decide) rfl ?_
  intro p e s m args below meth c s₁ B hml hv
  obtain ⟨rfl, hP, hK, hNW⟩ := hv
  have hx := B.exec
  have hb := B.bytes
  have hr := B.returns
  have hts := atoms_spec (ws := wsX6_distance) B.pre
  have hown : s.vm.findClass RX6 = some m.cls := findClass_of_methodNamed B.named
  have hlocks := B.notSynchronized
  have hin0 : ∀ w ∈ wsX00, w ∈ wsX6_distance := by decide +kernel
  have hin6 : ∀ w ∈ wsX60, w ∈ wsX6_distance := by decide +kernel
  have hl := lv_entry ([.ref (ad 0), .int a0, .int a1]) (n := 7) (Nat.le_of_ble_eq_true rfl)
  rw [lg_entry_eq]
  generalize (lg_sl ([.ref (ad 0), .int a0, .int a1]) ++ List.replicate (7 - (lg_sl ([.ref (ad 0), .int a0, .int a1])).length) Slot.unset).toArray = ls at hl ⊢
  have hl : lv_has ls 7 [(0, .ref (ad 0)), (1, .int a0), (2, .int a1)] := hl
  refine lv_aload_n hx hb dX6_distance_0 rfl (lv_at hl 0 rfl) ?_
  refine va_get (D := (dC, dI)) (ci := 2) (v := .ref (ad 1)) (C := RX6) (T := TX6) (N := 7) hx hb hts hin6 hown hK hP 0 rfl rfl 0 (by decide) (hts (.fieldLink RX6 12 "SnapTable" "widths" "LSnapTable$Axis;") (by decide +kernel)) (fun _ h9 => h9) rfl dX6_distance_1 ?_
  refine lv_aload_n hx hb dX6_distance_4 rfl (lv_at hl 0 rfl) ?_
  refine va_get (D := (dC, dI)) (ci := 2) (v := .ref (ad 1)) (C := RX6) (T := TX6) (N := 7) hx hb hts hin6 hown hK hP 0 rfl rfl 0 (by decide) (hts (.fieldLink RX6 12 "SnapTable" "widths" "LSnapTable$Axis;") (by decide +kernel)) (fun _ h9 => h9) rfl dX6_distance_5 ?_
  refine va_getN (D := (dC, dI)) (ci := 0) (v := .ref (ad 5)) (C := RX0) (T := TX0) (N := 5) hx hb hts hin0 hown hK hP 1 rfl rfl 1 (by decide) (va_Nw.use rfl hNW.1) (fun _ h9 => h9) rfl dX6_distance_8 ?_
  refine lv_iload_n hx hb dX6_distance_11 rfl (lv_at hl 1 rfl) ?_
  refine va_lald hx hb hK hP 5 1 rfl rfl (by first | with_reducible assumption | with_reducible exact pt_in (by with_reducible assumption) | with_reducible exact ptm_in (by with_reducible assumption) | exact LU.vin (B := 8) hm (by decide) (by with_reducible assumption) (by decide) | exact LU.vin (B := 4) hm (by decide) (by with_reducible assumption) (by decide) | exact LU.vin (B := 16) hm (by decide) (by with_reducible assumption) (by decide) | exact vp_in_nI (n := 0) (by decide) (by decide) | with_reducible exact gdm_in (by with_reducible assumption) (by with_reducible assumption) | with_reducible exact gd_in (by with_reducible assumption) (by with_reducible assumption)) dX6_distance_12 ?_
  refine lv_aload_n hx hb dX6_distance_13 rfl (lv_at hl 0 rfl) ?_
  refine va_get (D := (dC, dI)) (ci := 2) (v := .ref (ad 1)) (C := RX6) (T := TX6) (N := 7) hx hb hts hin6 hown hK hP 0 rfl rfl 0 (by decide) (hts (.fieldLink RX6 12 "SnapTable" "widths" "LSnapTable$Axis;") (by decide +kernel)) (fun _ h9 => h9) rfl dX6_distance_14 ?_
  refine va_getN (D := (dC, dI)) (ci := 0) (v := .ref (ad 5)) (C := RX0) (T := TX0) (N := 5) hx hb hts hin0 hown hK hP 1 rfl rfl 1 (by decide) (va_Nw.use rfl hNW.1) (fun _ h9 => h9) rfl dX6_distance_17 ?_
  refine lv_iload_n hx hb dX6_distance_20 rfl (lv_at hl 2 rfl) ?_
  refine va_lald hx hb hK hP 5 1 rfl rfl (by first | with_reducible assumption | with_reducible exact pt_in (by with_reducible assumption) | with_reducible exact ptm_in (by with_reducible assumption) | exact LU.vin (B := 8) hm (by decide) (by with_reducible assumption) (by decide) | exact LU.vin (B := 4) hm (by decide) (by with_reducible assumption) (by decide) | exact LU.vin (B := 16) hm (by decide) (by with_reducible assumption) (by decide) | exact vp_in_nI (n := 0) (by decide) (by decide) | with_reducible exact gdm_in (by with_reducible assumption) (by with_reducible assumption) | with_reducible exact gd_in (by with_reducible assumption) (by with_reducible assumption)) dX6_distance_21 ?_
  refine hc_V (C := RX0) (ci := 0) (T := TX0) (N := 5) (As := [.long (u.2.2.2.1.2.2.2 a0.toNatClampNeg), .long (u.2.2.2.1.2.2.2 a1.toNatClampNeg)]) (rest := []) ⟨hx, hb, hml, hown, hts⟩ (ct_X0_apart_w l dC dI (ad 1) (ad 5) (ca 5) u.2.2.2.1 (u.2.2.2.1.2.2.2 a0.toNatClampNeg) (u.2.2.2.1.2.2.2 a1.toNatClampNeg) (by with_reducible assumption)) (cwV 2 hts gX6_distance_X0_apart rfl rfl rfl (by decide +kernel) ⟨Nat.le_of_ble_eq_true rfl, Nat.le_of_ble_eq_true rfl⟩) (hw_part hP [1, 5] rfl) (hK.sub [1] rfl) hNW rfl rfl rfl hl.1 rfl (Nat.le_of_ble_eq_true rfl) dX6_distance_22 ⟨Nat.le_of_ble_eq_true rfl, Nat.le_of_ble_eq_true rfl⟩ ?_
  refine lv_dstore_n (lv' := [(3, .double (mX0_apart_w u.2.2.2.1 (u.2.2.2.1.2.2.2 a0.toNatClampNeg) (u.2.2.2.1.2.2.2 a1.toNatClampNeg))), (0, .ref (ad 0)), (1, .int a0), (2, .int a1)]) hx hb dX6_distance_25 rfl hl (by decide) rfl (fun ls hl => ?_)
  refine lv_aload_n hx hb dX6_distance_26 rfl (lv_at hl 1 rfl) ?_
  refine va_get (D := (dC, dI)) (ci := 2) (v := .ref (ad 2)) (C := RX6) (T := TX6) (N := 7) hx hb hts hin6 hown hK hP 0 rfl rfl 1 (by decide) (hts (.fieldLink RX6 18 "SnapTable" "heights" "LSnapTable$Axis;") (by decide +kernel)) (fun _ h9 => h9) rfl dX6_distance_27 ?_
  refine lv_aload_n hx hb dX6_distance_30 rfl (lv_at hl 1 rfl) ?_
  refine va_get (D := (dC, dI)) (ci := 2) (v := .ref (ad 2)) (C := RX6) (T := TX6) (N := 7) hx hb hts hin6 hown hK hP 0 rfl rfl 1 (by decide) (hts (.fieldLink RX6 18 "SnapTable" "heights" "LSnapTable$Axis;") (by decide +kernel)) (fun _ h9 => h9) rfl dX6_distance_31 ?_
  refine va_getN (D := (dC, dI)) (ci := 0) (v := .ref (ad 6)) (C := RX0) (T := TX0) (N := 5) hx hb hts hin0 hown hK hP 2 rfl rfl 1 (by decide) (va_Nw.use rfl hNW.1) (fun _ h9 => h9) rfl dX6_distance_34 ?_
  refine lv_iload_n hx hb dX6_distance_37 rfl (lv_at hl 2 rfl) ?_
  refine va_lald hx hb hK hP 6 2 rfl rfl (by first | with_reducible assumption | with_reducible exact pt_in (by with_reducible assumption) | with_reducible exact ptm_in (by with_reducible assumption) | exact LU.vin (B := 8) hm (by decide) (by with_reducible assumption) (by decide) | exact LU.vin (B := 4) hm (by decide) (by with_reducible assumption) (by decide) | exact LU.vin (B := 16) hm (by decide) (by with_reducible assumption) (by decide) | exact vp_in_nI (n := 0) (by decide) (by decide) | with_reducible exact gdm_in (by with_reducible assumption) (by with_reducible assumption) | with_reducible exact gd_in (by with_reducible assumption) (by with_reducible assumption)) dX6_distance_38 ?_
  refine lv_aload_n hx hb dX6_distance_39 rfl (lv_at hl 1 rfl) ?_
  refine va_get (D := (dC, dI)) (ci := 2) (v := .ref (ad 2)) (C := RX6) (T := TX6) (N := 7) hx hb hts hin6 hown hK hP 0 rfl rfl 1 (by decide) (hts (.fieldLink RX6 18 "SnapTable" "heights" "LSnapTable$Axis;") (by decide +kernel)) (fun _ h9 => h9) rfl dX6_distance_40 ?_
  refine va_getN (D := (dC, dI)) (ci := 0) (v := .ref (ad 6)) (C := RX0) (T := TX0) (N := 5) hx hb hts hin0 hown hK hP 2 rfl rfl 1 (by decide) (va_Nw.use rfl hNW.1) (fun _ h9 => h9) rfl dX6_distance_43 ?_
  refine lv_iload_n hx hb dX6_distance_46 rfl (lv_at hl 3 rfl) ?_
  refine va_lald hx hb hK hP 6 2 rfl rfl (by first | with_reducible assumption | with_reducible exact pt_in (by with_reducible assumption) | with_reducible exact ptm_in (by with_reducible assumption) | exact LU.vin (B := 8) hm (by decide) (by with_reducible assumption) (by decide) | exact LU.vin (B := 4) hm (by decide) (by with_reducible assumption) (by decide) | exact LU.vin (B := 16) hm (by decide) (by with_reducible assumption) (by decide) | exact vp_in_nI (n := 0) (by decide) (by decide) | with_reducible exact gdm_in (by with_reducible assumption) (by with_reducible assumption) | with_reducible exact gd_in (by with_reducible assumption) (by with_reducible assumption)) dX6_distance_47 ?_
  refine hc_V (C := RX0) (ci := 0) (T := TX0) (N := 5) (As := [.long (u.2.2.2.2.1.2.2.2 a0.toNatClampNeg), .long (u.2.2.2.2.1.2.2.2 a1.toNatClampNeg)]) (rest := []) ⟨hx, hb, hml, hown, hts⟩ (ct_X0_apart_h l dC dI (ad 2) (ad 6) (ca 6) u.2.2.2.2.1 (u.2.2.2.2.1.2.2.2 a0.toNatClampNeg) (u.2.2.2.2.1.2.2.2 a1.toNatClampNeg) (by with_reducible assumption)) (cwV 2 hts gX6_distance_X0_apart rfl rfl rfl (by decide +kernel) ⟨Nat.le_of_ble_eq_true rfl, Nat.le_of_ble_eq_true rfl⟩) (hw_part hP [2, 6] rfl) (hK.sub [2] rfl) hNW rfl rfl rfl hl.1 rfl (Nat.le_of_ble_eq_true rfl) dX6_distance_48 ⟨Nat.le_of_ble_eq_true rfl, Nat.le_of_ble_eq_true rfl⟩ ?_
  refine lv_dstore (lv' := [(5, .double (mX0_apart_h u.2.2.2.2.1 (u.2.2.2.2.1.2.2.2 a0.toNatClampNeg) (u.2.2.2.2.1.2.2.2 a1.toNatClampNeg))), (3, .double (mX0_apart_w u.2.2.2.1 (u.2.2.2.1.2.2.2 a0.toNatClampNeg) (u.2.2.2.1.2.2.2 a1.toNatClampNeg))), (0, .ref (ad 0)), (1, .int a0), (2, .int a1)]) hx hb dX6_distance_51 hl (by decide) rfl (fun ls hl => ?_)
  refine lv_dload_n hx hb dX6_distance_53 rfl (lv_at hl 1 rfl) ?_
  refine lv_dload hx hb dX6_distance_54 (lv_at hl 0 rfl) ?_
  refine lv_dcmp hx hb dX6_distance_56 ?_
  refine lv_if_lt (tgt := 64) hx hb dX6_distance_57 (by decide) (fun c_1 => ?_) (fun c_1 => ?_)
  · refine lv_dload hx hb dX6_distance_64 (lv_at hl 0 rfl) ?_
    exact W.dret (v := (mX0_apart_h u.2.2.2.2.1 (u.2.2.2.2.1.2.2.2 a0.toNatClampNeg) (u.2.2.2.2.1.2.2.2 a1.toNatClampNeg))) hx hb hr (fun t ht _ => ⟨by rw [mX6_distance, if_pos c_1], ht⟩) (fun _ h => by cases h) dX6_distance_66
  · refine lv_dload_n hx hb dX6_distance_60 rfl (lv_at hl 1 rfl) ?_
    refine lv_goto (tgt := 66) hx hb dX6_distance_61 (by decide) ?_
    exact W.dret (v := (mX0_apart_w u.2.2.2.1 (u.2.2.2.1.2.2.2 a0.toNatClampNeg) (u.2.2.2.1.2.2.2 a1.toNatClampNeg))) hx hb hr (fun t ht _ => ⟨by rw [mX6_distance, if_neg c_1], ht⟩) (fun _ h => by cases h) dX6_distance_66

theorem dist_nn {u : TS} {a0 a1 : Int32} (hW : FP.dIsNaN (FP.dsub (mX1_value (u.2.2.2.1.2.2.2 a0.toNatClampNeg)) (mX1_value (u.2.2.2.1.2.2.2 a1.toNatClampNeg))) = false) (hH : FP.fIsNaN (FP.fsub (FP.d2f (mX1_value (u.2.2.2.2.1.2.2.2 a0.toNatClampNeg))) (FP.d2f (mX1_value (u.2.2.2.2.1.2.2.2 a1.toNatClampNeg)))) = false) : FP.dIsNaN (mX6_distance u a0 a1) = false := by
  rw [mX6_distance]
  split
  · exact apart_h_nn hH
  · exact apart_w_nn hW

def mX6_far (u : TS) (a0 : Int32) (a1 : Int32) : Int64 := (if (mX6_isPoint a0) = 0 then (0 : Int64) else (if (mX6_isPoint a1) = 0 then (0 : Int64) else (mX1_ofSize (mX6_distance u a0 a1))))
set_option maxHeartbeats 4000000 in
set_option maxRecDepth 100000 in
theorem ct_X6_far (l : Launch) (dC : Nat → ClassId) (dI : Nat → Nat → Nat) (ad : Nat → Nat) (ca : Nat → ClassId) (u : TS) (a0 : Int32) (a1 : Int32) (hWW : ∀ i j : Int32, vp_in i 8 → vp_in j 8 → FP.dIsNaN (FP.dsub (mX1_value (u.2.2.2.1.2.2.2 i.toNatClampNeg)) (mX1_value (u.2.2.2.1.2.2.2 j.toNatClampNeg))) = false) (hHH : ∀ i j : Int32, vp_in i 8 → vp_in j 8 → FP.fIsNaN (FP.fsub (FP.d2f (mX1_value (u.2.2.2.2.1.2.2.2 i.toNatClampNeg))) (FP.d2f (mX1_value (u.2.2.2.2.1.2.2.2 j.toNatClampNeg)))) = false) : Met l yX6_far wsX6_far { frames := 6, cells := 0, slots := 0, locals := 149 } (pR (dC, dI) vwCl [((ca 4), .long), ((ca 5), .long), ((ca 6), .long), ((ca 7), .int), ((ca 8), .long), ((ca 9), .long)] (WT ad ca u) [.ref (ad 0), .int a0, .int a1]) (k2_QcV (.long (mX6_far u a0 a1))) 0 0 (fun _ => False) := by
  refine Met.ofW (cc := cX6_far) (maxL := 3) (ret := (some .long)) (by decide) rfl ?_
  intro p e s m args below meth c s₁ B hml hv
  obtain ⟨rfl, hP, hK, hNW⟩ := hv
  have hx := B.exec
  have hb := B.bytes
  have hr := B.returns
  have hts := atoms_spec (ws := wsX6_far) B.pre
  have hown : s.vm.findClass RX6 = some m.cls := findClass_of_methodNamed B.named
  have hlocks := B.notSynchronized
  have hl := lv_entry ([.ref (ad 0), .int a0, .int a1]) (n := 3) (Nat.le_of_ble_eq_true rfl)
  rw [lg_entry_eq]
  generalize (lg_sl ([.ref (ad 0), .int a0, .int a1]) ++ List.replicate (3 - (lg_sl ([.ref (ad 0), .int a0, .int a1])).length) Slot.unset).toArray = ls at hl ⊢
  have hl : lv_has ls 3 [(0, .ref (ad 0)), (1, .int a0), (2, .int a1)] := hl
  refine lv_iload_n hx hb dX6_far_0 rfl (lv_at hl 1 rfl) ?_
  refine hc_S (As := [.int a0]) (rest := []) ⟨hx, hb, hml, hown, hts⟩ (ct_X6_isPoint l a0) (va_cwS 1 hts gX6_far_X6_isPoint rfl rfl rfl (by decide +kernel) ⟨Nat.le_of_ble_eq_true rfl, Nat.le_of_ble_eq_true rfl⟩) rfl hl.1 rfl (Nat.le_of_ble_eq_true rfl) dX6_far_1 ⟨Nat.le_of_ble_eq_true rfl, Nat.le_of_ble_eq_true rfl⟩ ?_
  refine lv_if_eq (tgt := 26) hx hb dX6_far_4 (by decide) (fun c_1 => ?_) (fun c_1 => ?_)
  · refine lv_lconst (v := (0 : Int64)) hx hb dX6_far_26 (by decide) ?_
    exact W.lret (v := (0 : Int64)) hx hb hr (fun t ht _ => ⟨by rw [mX6_far, if_pos c_1], ht⟩) (fun _ h => by cases h) dX6_far_27
  · refine lv_iload_n hx hb dX6_far_7 rfl (lv_at hl 2 rfl) ?_
    refine hc_S (As := [.int a1]) (rest := []) ⟨hx, hb, hml, hown, hts⟩ (ct_X6_isPoint l a1) (va_cwS 1 hts gX6_far_X6_isPoint rfl rfl rfl (by decide +kernel) ⟨Nat.le_of_ble_eq_true rfl, Nat.le_of_ble_eq_true rfl⟩) rfl hl.1 rfl (Nat.le_of_ble_eq_true rfl) dX6_far_8 ⟨Nat.le_of_ble_eq_true rfl, Nat.le_of_ble_eq_true rfl⟩ ?_
    refine lv_if_eq (tgt := 26) hx hb dX6_far_11 (by decide) (fun c_2 => ?_) (fun c_2 => ?_)
    · refine lv_lconst (v := (0 : Int64)) hx hb dX6_far_26 (by decide) ?_
      exact W.lret (v := (0 : Int64)) hx hb hr (fun t ht _ => ⟨by rw [mX6_far, if_neg c_1, if_pos c_2], ht⟩) (fun _ h => by cases h) dX6_far_27
    · refine lv_aload_n hx hb dX6_far_14 rfl (lv_at hl 0 rfl) ?_
      refine lv_iload_n hx hb dX6_far_15 rfl (lv_at hl 1 rfl) ?_
      refine lv_iload_n hx hb dX6_far_16 rfl (lv_at hl 2 rfl) ?_
      refine hc_V (C := RX6) (ci := 2) (T := TX6) (N := 7) (As := [.int a0, .int a1]) (rest := []) ⟨hx, hb, hml, hown, hts⟩ (ct_X6_distance l dC dI ad ca u a0 a1 (by first | with_reducible exact pt_in (by with_reducible assumption) | with_reducible exact hWW _ _ (pt_in (by with_reducible assumption)) (pt_in (by with_reducible assumption)) | with_reducible exact hHH _ _ (pt_in (by with_reducible assumption)) (pt_in (by with_reducible assumption)) | with_reducible exact dist_nn (hWW _ _ (pt_in (by with_reducible assumption)) (pt_in (by with_reducible assumption))) (hHH _ _ (pt_in (by with_reducible assumption)) (pt_in (by with_reducible assumption)))) (by first | with_reducible exact pt_in (by with_reducible assumption) | with_reducible exact hWW _ _ (pt_in (by with_reducible assumption)) (pt_in (by with_reducible assumption)) | with_reducible exact hHH _ _ (pt_in (by with_reducible assumption)) (pt_in (by with_reducible assumption)) | with_reducible exact dist_nn (hWW _ _ (pt_in (by with_reducible assumption)) (pt_in (by with_reducible assumption))) (hHH _ _ (pt_in (by with_reducible assumption)) (pt_in (by with_reducible assumption)))) (by first | with_reducible exact pt_in (by with_reducible assumption) | with_reducible exact hWW _ _ (pt_in (by with_reducible assumption)) (pt_in (by with_reducible assumption)) | with_reducible exact hHH _ _ (pt_in (by with_reducible assumption)) (pt_in (by with_reducible assumption)) | with_reducible exact dist_nn (hWW _ _ (pt_in (by with_reducible assumption)) (pt_in (by with_reducible assumption))) (hHH _ _ (pt_in (by with_reducible assumption)) (pt_in (by with_reducible assumption)))) (by first | with_reducible exact pt_in (by with_reducible assumption) | with_reducible exact hWW _ _ (pt_in (by with_reducible assumption)) (pt_in (by with_reducible assumption)) | with_reducible exact hHH _ _ (pt_in (by with_reducible assumption)) (pt_in (by with_reducible assumption)) | with_reducible exact dist_nn (hWW _ _ (pt_in (by with_reducible assumption)) (pt_in (by with_reducible assumption))) (hHH _ _ (pt_in (by with_reducible assumption)) (pt_in (by with_reducible assumption))))) (cwV 2 hts gX6_far_X6_distance rfl rfl rfl (by decide +kernel) ⟨Nat.le_of_ble_eq_true rfl, Nat.le_of_ble_eq_true rfl⟩) (hw_part hP [0, 1, 2, 3, 4, 5, 6, 7, 8, 9] rfl) (hK.sub [0, 1, 2, 3, 4, 5] rfl) hNW rfl rfl rfl hl.1 rfl (Nat.le_of_ble_eq_true rfl) dX6_far_17 ⟨Nat.le_of_ble_eq_true rfl, Nat.le_of_ble_eq_true rfl⟩ ?_
      refine hc_S (As := [.double (mX6_distance u a0 a1)]) (rest := []) ⟨hx, hb, hml, hown, hts⟩ (ct_X1_ofSize l (mX6_distance u a0 a1) (by first | with_reducible exact pt_in (by with_reducible assumption) | with_reducible exact hWW _ _ (pt_in (by with_reducible assumption)) (pt_in (by with_reducible assumption)) | with_reducible exact hHH _ _ (pt_in (by with_reducible assumption)) (pt_in (by with_reducible assumption)) | with_reducible exact dist_nn (hWW _ _ (pt_in (by with_reducible assumption)) (pt_in (by with_reducible assumption))) (hHH _ _ (pt_in (by with_reducible assumption)) (pt_in (by with_reducible assumption))))) (va_cwS 1 hts gX6_far_X1_ofSize rfl rfl rfl (by decide +kernel) ⟨Nat.le_of_ble_eq_true rfl, Nat.le_of_ble_eq_true rfl⟩) rfl hl.1 rfl (Nat.le_of_ble_eq_true rfl) dX6_far_20 ⟨Nat.le_of_ble_eq_true rfl, Nat.le_of_ble_eq_true rfl⟩ ?_
      refine lv_goto (tgt := 27) hx hb dX6_far_23 (by decide) ?_
      exact W.lret (v := (mX1_ofSize (mX6_distance u a0 a1))) hx hb hr (fun t ht _ => ⟨by rw [mX6_far, if_neg c_1, if_neg c_2], ht⟩) (fun _ h => by cases h) dX6_far_27

def mX6_neighbour_L (u : TS) (a0 : Int32) : Nat → Int32 → UInt64 → Int32 → Int32
  | 0, _, _, _ => default
  | n + 1, q, v, i => (if (8 : Int32) ≤ i then q else (if i = a0 then (mX6_neighbour_L u a0 n q v (i + 1)) else (if q = (-1 : Int32) then (mX6_neighbour_L u a0 n i (mX6_distance u a0 i) (i + 1)) else (if 0 ≤ (Op.cmpValue (FP.dcmp (mX6_distance u a0 i) v) .g) then (mX6_neighbour_L u a0 n q v (i + 1)) else (mX6_neighbour_L u a0 n i (mX6_distance u a0 i) (i + 1))))))
def mX6_neighbour (u : TS) (a0 : Int32) : Int32 := (if (mX6_isPoint a0) = 0 then (-1 : Int32) else (mX6_neighbour_L u a0 9 (-1 : Int32) FP.dconst0 (0 : Int32)))
set_option maxHeartbeats 4000000 in
set_option maxRecDepth 100000 in
theorem ct_X6_neighbour (l : Launch) (dC : Nat → ClassId) (dI : Nat → Nat → Nat) (ad : Nat → Nat) (ca : Nat → ClassId) (u : TS) (a0 : Int32) (hWW : ∀ i j : Int32, vp_in i 8 → vp_in j 8 → FP.dIsNaN (FP.dsub (mX1_value (u.2.2.2.1.2.2.2 i.toNatClampNeg)) (mX1_value (u.2.2.2.1.2.2.2 j.toNatClampNeg))) = false) (hHH : ∀ i j : Int32, vp_in i 8 → vp_in j 8 → FP.fIsNaN (FP.fsub (FP.d2f (mX1_value (u.2.2.2.2.1.2.2.2 i.toNatClampNeg))) (FP.d2f (mX1_value (u.2.2.2.2.1.2.2.2 j.toNatClampNeg)))) = false) : Met l yX6_neighbour wsX6_neighbour { frames := 6, cells := 0, slots := 0, locals := 149 } (pR (dC, dI) vwCl [((ca 4), .long), ((ca 5), .long), ((ca 6), .long), ((ca 7), .int), ((ca 8), .long), ((ca 9), .long)] (WT ad ca u) [.ref (ad 0), .int a0]) (k2_QcV (.int (mX6_neighbour u a0))) 0 0 (fun _ => False) := by
  refine Met.ofW (cc := cX6_neighbour) (maxL := 8) (ret := (some .int)) (by decide) rfl ?_
  intro p e s m args below meth c s₁ B hml hv
  obtain ⟨rfl, hP, hK, hNW⟩ := hv
  have hx := B.exec
  have hb := B.bytes
  have hr := B.returns
  have hts := atoms_spec (ws := wsX6_neighbour) B.pre
  have hown : s.vm.findClass RX6 = some m.cls := findClass_of_methodNamed B.named
  have hlocks := B.notSynchronized
  have hl := lv_entry ([.ref (ad 0), .int a0]) (n := 8) (Nat.le_of_ble_eq_true rfl)
  rw [lg_entry_eq]
  generalize (lg_sl ([.ref (ad 0), .int a0]) ++ List.replicate (8 - (lg_sl ([.ref (ad 0), .int a0])).length) Slot.unset).toArray = ls at hl ⊢
  have hl : lv_has ls 8 [(0, .ref (ad 0)), (1, .int a0)] := hl
  refine lv_iload_n hx hb dX6_neighbour_0 rfl (lv_at hl 1 rfl) ?_
  refine hc_S (As := [.int a0]) (rest := []) ⟨hx, hb, hml, hown, hts⟩ (ct_X6_isPoint l a0) (va_cwS 1 hts gX6_neighbour_X6_isPoint rfl rfl rfl (by decide +kernel) ⟨Nat.le_of_ble_eq_true rfl, Nat.le_of_ble_eq_true rfl⟩) rfl hl.1 rfl (Nat.le_of_ble_eq_true rfl) dX6_neighbour_1 ⟨Nat.le_of_ble_eq_true rfl, Nat.le_of_ble_eq_true rfl⟩ ?_
  refine lv_if_ne (tgt := 9) hx hb dX6_neighbour_4 (by decide) (fun c_1 => ?_) (fun c_1 => ?_)
  · refine lv_iconst (v := (-1 : Int32)) hx hb dX6_neighbour_9 (by decide) ?_
    refine lv_istore_n (lv' := [(2, .int (-1 : Int32)), (0, .ref (ad 0)), (1, .int a0)]) hx hb dX6_neighbour_10 rfl hl (by decide) rfl (fun ls hl => ?_)
    refine lv_dconst0 hx hb dX6_neighbour_11 ?_
    refine lv_dstore_n (lv' := [(3, .double FP.dconst0), (2, .int (-1 : Int32)), (0, .ref (ad 0)), (1, .int a0)]) hx hb dX6_neighbour_12 rfl hl (by decide) rfl (fun ls hl => ?_)
    refine lv_iconst (v := (0 : Int32)) hx hb dX6_neighbour_13 (by decide) ?_
    refine lv_istore (lv' := [(5, .int (0 : Int32)), (3, .double FP.dconst0), (2, .int (-1 : Int32)), (0, .ref (ad 0)), (1, .int a0)]) hx hb dX6_neighbour_14 hl (by decide) rfl (fun ls hl => ?_)
    have loop : ∀ (n : Nat) (q : Int32) (v : UInt64) (i : Int32) (ls : Array Slot), LU 8 n i → mX6_neighbour_L u a0 n q v i = mX6_neighbour u a0 → lv_has ls 8 [(2, .int q), (3, .double v), (5, .int i), (0, .ref (ad 0)), (1, .int a0)] → W p l e (headSpec wsX6_neighbour { frames := 6, cells := 0, slots := 0, locals := 149 }).room s m ([.ref (ad 0), .int a0] : List Value).toArray below meth c s.heap [] 0 0 (MQ below (k2_QcV (.int (mX6_neighbour u a0))) ([.ref (ad 0), .int a0] : List Value).toArray s 0 0 (fun _ => False)) (F0 m 16 ls []) := by
      intro n
      induction n with
      | zero => intro q v i ls hm; exact absurd hm (fun h => h.z)
      | succ n ih =>
        intro q v i ls hm  heq hl
        refine lv_iload hx hb dX6_neighbour_16 (lv_at hl 2 rfl) ?_
        refine lv_bipush (v := (8 : Int32)) hx hb dX6_neighbour_18 (by decide) ?_
        refine lv_icmp_ge (tgt := 62) hx hb dX6_neighbour_20 (by decide) (fun c_2 => ?_) (fun c_2 => ?_)
        · refine lv_iload_n hx hb dX6_neighbour_62 rfl (lv_at hl 0 rfl) ?_
          exact W.iret (v := q) hx hb hr (fun t ht _ => ⟨by rw [← heq, mX6_neighbour_L, if_pos c_2], ht⟩) (fun _ h => by cases h) dX6_neighbour_63
        · refine lv_iload hx hb dX6_neighbour_23 (lv_at hl 2 rfl) ?_
          refine lv_iload_n hx hb dX6_neighbour_25 rfl (lv_at hl 4 rfl) ?_
          refine lv_icmp_eq (tgt := 56) hx hb dX6_neighbour_26 (by decide) (fun c_3 => ?_) (fun c_3 => ?_)
          · refine lv_iinc (v := (i + 1)) (lv' := [(5, .int (i + 1)), (2, .int q), (3, .double v), (0, .ref (ad 0)), (1, .int a0)]) hx hb dX6_neighbour_56 hl (k := 2) rfl rfl (by decide) rfl (fun ls hl => ?_)
            refine lv_goto (tgt := 16) hx hb dX6_neighbour_59 (by decide) ?_
            exact ih q v (i + 1) ls (LU.up (B := 8) (by decide) hm (by with_reducible assumption))  (by rw [← heq, mX6_neighbour_L, if_neg c_2, if_pos c_3]) (lv_sub hl [1, 2, 0, 3, 4] rfl)
          · refine lv_aload_n hx hb dX6_neighbour_29 rfl (lv_at hl 3 rfl) ?_
            refine lv_iload_n hx hb dX6_neighbour_30 rfl (lv_at hl 4 rfl) ?_
            refine lv_iload hx hb dX6_neighbour_31 (lv_at hl 2 rfl) ?_
            refine hc_V (C := RX6) (ci := 2) (T := TX6) (N := 7) (As := [.int a0, .int i]) (rest := []) ⟨hx, hb, hml, hown, hts⟩ (ct_X6_distance l dC dI ad ca u a0 i (by first | with_reducible exact pt_in (by with_reducible assumption) | exact (LU.vin (B := 8) hm (by decide) (by with_reducible assumption) (by decide)) | with_reducible exact hWW _ _ (pt_in (by with_reducible assumption)) (LU.vin (B := 8) hm (by decide) (by with_reducible assumption) (by decide)) | with_reducible exact hHH _ _ (pt_in (by with_reducible assumption)) (LU.vin (B := 8) hm (by decide) (by with_reducible assumption) (by decide))) (by first | with_reducible exact pt_in (by with_reducible assumption) | exact (LU.vin (B := 8) hm (by decide) (by with_reducible assumption) (by decide)) | with_reducible exact hWW _ _ (pt_in (by with_reducible assumption)) (LU.vin (B := 8) hm (by decide) (by with_reducible assumption) (by decide)) | with_reducible exact hHH _ _ (pt_in (by with_reducible assumption)) (LU.vin (B := 8) hm (by decide) (by with_reducible assumption) (by decide))) (by first | with_reducible exact pt_in (by with_reducible assumption) | exact (LU.vin (B := 8) hm (by decide) (by with_reducible assumption) (by decide)) | with_reducible exact hWW _ _ (pt_in (by with_reducible assumption)) (LU.vin (B := 8) hm (by decide) (by with_reducible assumption) (by decide)) | with_reducible exact hHH _ _ (pt_in (by with_reducible assumption)) (LU.vin (B := 8) hm (by decide) (by with_reducible assumption) (by decide))) (by first | with_reducible exact pt_in (by with_reducible assumption) | exact (LU.vin (B := 8) hm (by decide) (by with_reducible assumption) (by decide)) | with_reducible exact hWW _ _ (pt_in (by with_reducible assumption)) (LU.vin (B := 8) hm (by decide) (by with_reducible assumption) (by decide)) | with_reducible exact hHH _ _ (pt_in (by with_reducible assumption)) (LU.vin (B := 8) hm (by decide) (by with_reducible assumption) (by decide)))) (cwV 2 hts gX6_neighbour_X6_distance rfl rfl rfl (by decide +kernel) ⟨Nat.le_of_ble_eq_true rfl, Nat.le_of_ble_eq_true rfl⟩) (hw_part hP [0, 1, 2, 3, 4, 5, 6, 7, 8, 9] rfl) (hK.sub [0, 1, 2, 3, 4, 5] rfl) hNW rfl rfl rfl hl.1 rfl (Nat.le_of_ble_eq_true rfl) dX6_neighbour_33 ⟨Nat.le_of_ble_eq_true rfl, Nat.le_of_ble_eq_true rfl⟩ ?_
            refine lv_dstore (lv' := [(6, .double (mX6_distance u a0 i)), (2, .int q), (3, .double v), (5, .int i), (0, .ref (ad 0)), (1, .int a0)]) hx hb dX6_neighbour_36 hl (by decide) rfl (fun ls hl => ?_)
            refine lv_iload_n hx hb dX6_neighbour_38 rfl (lv_at hl 1 rfl) ?_
            refine lv_iconst (v := (-1 : Int32)) hx hb dX6_neighbour_39 (by decide) ?_
            refine lv_icmp_eq (tgt := 50) hx hb dX6_neighbour_40 (by decide) (fun c_4 => ?_) (fun c_4 => ?_)
            · refine lv_iload hx hb dX6_neighbour_50 (lv_at hl 3 rfl) ?_
              refine lv_istore_n (lv' := [(2, .int i), (6, .double (mX6_distance u a0 i)), (3, .double v), (5, .int i), (0, .ref (ad 0)), (1, .int a0)]) hx hb dX6_neighbour_52 rfl hl (by decide) rfl (fun ls hl => ?_)
              refine lv_dload hx hb dX6_neighbour_53 (lv_at hl 1 rfl) ?_
              refine lv_dstore_n (lv' := [(3, .double (mX6_distance u a0 i)), (2, .int i), (6, .double (mX6_distance u a0 i)), (5, .int i), (0, .ref (ad 0)), (1, .int a0)]) hx hb dX6_neighbour_55 rfl hl (by decide) rfl (fun ls hl => ?_)
              refine lv_iinc (v := (i + 1)) (lv' := [(5, .int (i + 1)), (3, .double (mX6_distance u a0 i)), (2, .int i), (6, .double (mX6_distance u a0 i)), (0, .ref (ad 0)), (1, .int a0)]) hx hb dX6_neighbour_56 hl (k := 3) rfl rfl (by decide) rfl (fun ls hl => ?_)
              refine lv_goto (tgt := 16) hx hb dX6_neighbour_59 (by decide) ?_
              exact ih i (mX6_distance u a0 i) (i + 1) ls (LU.up (B := 8) (by decide) hm (by with_reducible assumption))  (by rw [← heq, mX6_neighbour_L, if_neg c_2, if_neg c_3, if_pos c_4]) (lv_sub hl [2, 1, 0, 4, 5] rfl)
            · refine lv_dload hx hb dX6_neighbour_43 (lv_at hl 0 rfl) ?_
              refine lv_dload_n hx hb dX6_neighbour_45 rfl (lv_at hl 2 rfl) ?_
              refine lv_dcmp hx hb dX6_neighbour_46 ?_
              refine lv_if_ge (tgt := 56) hx hb dX6_neighbour_47 (by decide) (fun c_5 => ?_) (fun c_5 => ?_)
              · refine lv_iinc (v := (i + 1)) (lv' := [(5, .int (i + 1)), (6, .double (mX6_distance u a0 i)), (2, .int q), (3, .double v), (0, .ref (ad 0)), (1, .int a0)]) hx hb dX6_neighbour_56 hl (k := 3) rfl rfl (by decide) rfl (fun ls hl => ?_)
                refine lv_goto (tgt := 16) hx hb dX6_neighbour_59 (by decide) ?_
                exact ih q v (i + 1) ls (LU.up (B := 8) (by decide) hm (by with_reducible assumption))  (by rw [← heq, mX6_neighbour_L, if_neg c_2, if_neg c_3, if_neg c_4, if_pos c_5]) (lv_sub hl [2, 3, 0, 4, 5] rfl)
              · refine lv_iload hx hb dX6_neighbour_50 (lv_at hl 3 rfl) ?_
                refine lv_istore_n (lv' := [(2, .int i), (6, .double (mX6_distance u a0 i)), (3, .double v), (5, .int i), (0, .ref (ad 0)), (1, .int a0)]) hx hb dX6_neighbour_52 rfl hl (by decide) rfl (fun ls hl => ?_)
                refine lv_dload hx hb dX6_neighbour_53 (lv_at hl 1 rfl) ?_
                refine lv_dstore_n (lv' := [(3, .double (mX6_distance u a0 i)), (2, .int i), (6, .double (mX6_distance u a0 i)), (5, .int i), (0, .ref (ad 0)), (1, .int a0)]) hx hb dX6_neighbour_55 rfl hl (by decide) rfl (fun ls hl => ?_)
                refine lv_iinc (v := (i + 1)) (lv' := [(5, .int (i + 1)), (3, .double (mX6_distance u a0 i)), (2, .int i), (6, .double (mX6_distance u a0 i)), (0, .ref (ad 0)), (1, .int a0)]) hx hb dX6_neighbour_56 hl (k := 3) rfl rfl (by decide) rfl (fun ls hl => ?_)
                refine lv_goto (tgt := 16) hx hb dX6_neighbour_59 (by decide) ?_
                exact ih i (mX6_distance u a0 i) (i + 1) ls (LU.up (B := 8) (by decide) hm (by with_reducible assumption))  (by rw [← heq, mX6_neighbour_L, if_neg c_2, if_neg c_3, if_neg c_4, if_neg c_5]) (lv_sub hl [2, 1, 0, 4, 5] rfl)
    exact loop 9 (-1 : Int32) FP.dconst0 (0 : Int32) ls (by unfold LU; decide)  (by rw [mX6_neighbour, if_neg c_1]) (lv_sub hl [2, 1, 0, 3, 4] rfl)
  · refine lv_iconst (v := (-1 : Int32)) hx hb dX6_neighbour_7 (by decide) ?_
    exact W.iret (v := (-1 : Int32)) hx hb hr (fun t ht _ => ⟨by rw [mX6_neighbour, if_pos c_1], ht⟩) (fun _ h => by cases h) dX6_neighbour_8

def mX6_cellAt (u : TS) (a0 : Int64) : Int32 := (FP.d2i (mX1_value (mX0_wholeSteps_w u.2.2.2.1 a0 (0 : Int32))))
set_option maxHeartbeats 4000000 in
set_option maxRecDepth 100000 in
theorem ct_X6_cellAt (l : Launch) (dC : Nat → ClassId) (dI : Nat → Nat → Nat) (ad : Nat → Nat) (ca : Nat → ClassId) (u : TS) (a0 : Int64) (hd : FP.dIsNaN (FP.ddiv (mX1_valueOfSize a0) (mX1_valueOfSize u.2.2.2.1.2.2.1)) = false) : Met l yX6_cellAt wsX6_cellAt { frames := 5, cells := 0, slots := 0, locals := 126 } (pR (dC, dI) vwCl [((ca 4), .long), ((ca 5), .long), ((ca 6), .long), ((ca 7), .int), ((ca 8), .long), ((ca 9), .long)] (WT ad ca u) [.ref (ad 0), .long a0]) (k2_QcV (.int (mX6_cellAt u a0))) 0 0 (fun _ => False) := by
  refine Met.ofW (cc := cX6_cellAt) (maxL := 3) (ret := (some .int)) (by decide) rfl ?_
  intro p e s m args below meth c s₁ B hml hv
  obtain ⟨rfl, hP, hK, hNW⟩ := hv
  have hx := B.exec
  have hb := B.bytes
  have hr := B.returns
  have hts := atoms_spec (ws := wsX6_cellAt) B.pre
  have hown : s.vm.findClass RX6 = some m.cls := findClass_of_methodNamed B.named
  have hlocks := B.notSynchronized
  have hin6 : ∀ w ∈ wsX60, w ∈ wsX6_cellAt := by decide +kernel
  have hl := lv_entry ([.ref (ad 0), .long a0]) (n := 3) (Nat.le_of_ble_eq_true rfl)
  rw [lg_entry_eq]
  generalize (lg_sl ([.ref (ad 0), .long a0]) ++ List.replicate (3 - (lg_sl ([.ref (ad 0), .long a0])).length) Slot.unset).toArray = ls at hl ⊢
  have hl : lv_has ls 3 [(0, .ref (ad 0)), (1, .long a0)] := hl
  refine lv_aload_n hx hb dX6_cellAt_0 rfl (lv_at hl 0 rfl) ?_
  refine va_get (D := (dC, dI)) (ci := 2) (v := .ref (ad 1)) (C := RX6) (T := TX6) (N := 7) hx hb hts hin6 hown hK hP 0 rfl rfl 0 (by decide) (hts (.fieldLink RX6 12 "SnapTable" "widths" "LSnapTable$Axis;") (by decide +kernel)) (fun _ h9 => h9) rfl dX6_cellAt_1 ?_
  refine lv_lload_n hx hb dX6_cellAt_4 rfl (lv_at hl 1 rfl) ?_
  refine lv_iconst (v := (0 : Int32)) hx hb dX6_cellAt_5 (by decide) ?_
  refine hc_V (C := RX0) (ci := 0) (T := TX0) (N := 5) (As := [.long a0, .int (0 : Int32)]) (rest := []) ⟨hx, hb, hml, hown, hts⟩ (ct_X0_wholeSteps_w l dC dI (ad 1) (ad 5) (ca 5) u.2.2.2.1 a0 (0 : Int32) (by with_reducible assumption)) (cwV 2 hts gX6_cellAt_X0_wholeSteps rfl rfl rfl (by decide +kernel) ⟨Nat.le_of_ble_eq_true rfl, Nat.le_of_ble_eq_true rfl⟩) (hw_part hP [1, 5] rfl) (hK.sub [1] rfl) hNW rfl rfl rfl hl.1 rfl (Nat.le_of_ble_eq_true rfl) dX6_cellAt_6 ⟨Nat.le_of_ble_eq_true rfl, Nat.le_of_ble_eq_true rfl⟩ ?_
  refine hc_S (As := [.long (mX0_wholeSteps_w u.2.2.2.1 a0 (0 : Int32))]) (rest := []) ⟨hx, hb, hml, hown, hts⟩ (ct_X1_value l (mX0_wholeSteps_w u.2.2.2.1 a0 (0 : Int32))) (va_cwS 1 hts gX6_cellAt_X1_value rfl rfl rfl (by decide +kernel) ⟨Nat.le_of_ble_eq_true rfl, Nat.le_of_ble_eq_true rfl⟩) rfl hl.1 rfl (Nat.le_of_ble_eq_true rfl) dX6_cellAt_9 ⟨Nat.le_of_ble_eq_true rfl, Nat.le_of_ble_eq_true rfl⟩ ?_
  refine lv_d2i hx hb dX6_cellAt_12 ?_
  exact W.iret (v := (FP.d2i (mX1_value (mX0_wholeSteps_w u.2.2.2.1 a0 (0 : Int32))))) hx hb hr (fun t ht _ => ⟨by rw [mX6_cellAt], ht⟩) (fun _ h => by cases h) dX6_cellAt_13

def mX6_markAt (u : TS) (a0 : Int64) : Int64 := (FP.d2l (mX1_value (mX0_wholeSteps_h u.2.2.2.2.1 a0 (2 : Int32))))
set_option maxHeartbeats 4000000 in
set_option maxRecDepth 100000 in
theorem ct_X6_markAt (l : Launch) (dC : Nat → ClassId) (dI : Nat → Nat → Nat) (ad : Nat → Nat) (ca : Nat → ClassId) (u : TS) (a0 : Int64) (hd : FP.fIsNaN (FP.fdiv (FP.d2f (mX1_valueOfSize a0)) (FP.d2f (mX1_valueOfSize u.2.2.2.2.1.2.2.1))) = false) : Met l yX6_markAt wsX6_markAt { frames := 5, cells := 0, slots := 0, locals := 126 } (pR (dC, dI) vwCl [((ca 4), .long), ((ca 5), .long), ((ca 6), .long), ((ca 7), .int), ((ca 8), .long), ((ca 9), .long)] (WT ad ca u) [.ref (ad 0), .long a0]) (k2_QcV (.long (mX6_markAt u a0))) 0 0 (fun _ => False) := by
  refine Met.ofW (cc := cX6_markAt) (maxL := 3) (ret := (some .long)) (by decide) rfl ?_
  intro p e s m args below meth c s₁ B hml hv
  obtain ⟨rfl, hP, hK, hNW⟩ := hv
  have hx := B.exec
  have hb := B.bytes
  have hr := B.returns
  have hts := atoms_spec (ws := wsX6_markAt) B.pre
  have hown : s.vm.findClass RX6 = some m.cls := findClass_of_methodNamed B.named
  have hlocks := B.notSynchronized
  have hin6 : ∀ w ∈ wsX60, w ∈ wsX6_markAt := by decide +kernel
  have hl := lv_entry ([.ref (ad 0), .long a0]) (n := 3) (Nat.le_of_ble_eq_true rfl)
  rw [lg_entry_eq]
  generalize (lg_sl ([.ref (ad 0), .long a0]) ++ List.replicate (3 - (lg_sl ([.ref (ad 0), .long a0])).length) Slot.unset).toArray = ls at hl ⊢
  have hl : lv_has ls 3 [(0, .ref (ad 0)), (1, .long a0)] := hl
  refine lv_aload_n hx hb dX6_markAt_0 rfl (lv_at hl 0 rfl) ?_
  refine va_get (D := (dC, dI)) (ci := 2) (v := .ref (ad 2)) (C := RX6) (T := TX6) (N := 7) hx hb hts hin6 hown hK hP 0 rfl rfl 1 (by decide) (hts (.fieldLink RX6 18 "SnapTable" "heights" "LSnapTable$Axis;") (by decide +kernel)) (fun _ h9 => h9) rfl dX6_markAt_1 ?_
  refine lv_lload_n hx hb dX6_markAt_4 rfl (lv_at hl 1 rfl) ?_
  refine lv_iconst (v := (2 : Int32)) hx hb dX6_markAt_5 (by decide) ?_
  refine hc_V (C := RX0) (ci := 0) (T := TX0) (N := 5) (As := [.long a0, .int (2 : Int32)]) (rest := []) ⟨hx, hb, hml, hown, hts⟩ (ct_X0_wholeSteps_h l dC dI (ad 2) (ad 6) (ca 6) u.2.2.2.2.1 a0 (2 : Int32) (by with_reducible assumption)) (cwV 2 hts gX6_markAt_X0_wholeSteps rfl rfl rfl (by decide +kernel) ⟨Nat.le_of_ble_eq_true rfl, Nat.le_of_ble_eq_true rfl⟩) (hw_part hP [2, 6] rfl) (hK.sub [2] rfl) hNW rfl rfl rfl hl.1 rfl (Nat.le_of_ble_eq_true rfl) dX6_markAt_6 ⟨Nat.le_of_ble_eq_true rfl, Nat.le_of_ble_eq_true rfl⟩ ?_
  refine hc_S (As := [.long (mX0_wholeSteps_h u.2.2.2.2.1 a0 (2 : Int32))]) (rest := []) ⟨hx, hb, hml, hown, hts⟩ (ct_X1_value l (mX0_wholeSteps_h u.2.2.2.2.1 a0 (2 : Int32))) (va_cwS 1 hts gX6_markAt_X1_value rfl rfl rfl (by decide +kernel) ⟨Nat.le_of_ble_eq_true rfl, Nat.le_of_ble_eq_true rfl⟩) rfl hl.1 rfl (Nat.le_of_ble_eq_true rfl) dX6_markAt_9 ⟨Nat.le_of_ble_eq_true rfl, Nat.le_of_ble_eq_true rfl⟩ ?_
  refine lv_d2l hx hb dX6_markAt_12 ?_
  exact W.lret (v := (FP.d2l (mX1_value (mX0_wholeSteps_h u.2.2.2.2.1 a0 (2 : Int32))))) hx hb hr (fun t ht _ => ⟨by rw [mX6_markAt], ht⟩) (fun _ h => by cases h) dX6_markAt_13

def mX6_cell (u : TS) (a0 : Int32) : Int32 := (if (mX6_isPoint a0) = 0 then (0 : Int32) else (mX6_cellAt u (u.2.2.2.1.2.2.2 a0.toNatClampNeg)))
set_option maxHeartbeats 4000000 in
set_option maxRecDepth 100000 in
theorem ct_X6_cell (l : Launch) (dC : Nat → ClassId) (dI : Nat → Nat → Nat) (ad : Nat → Nat) (ca : Nat → ClassId) (u : TS) (a0 : Int32) (hd : ∀ i : Int32, vp_in i 8 → FP.dIsNaN (FP.ddiv (mX1_valueOfSize (u.2.2.2.1.2.2.2 i.toNatClampNeg)) (mX1_valueOfSize u.2.2.2.1.2.2.1)) = false) : Met l yX6_cell wsX6_cell { frames := 6, cells := 0, slots := 0, locals := 148 } (pR (dC, dI) vwCl [((ca 4), .long), ((ca 5), .long), ((ca 6), .long), ((ca 7), .int), ((ca 8), .long), ((ca 9), .long)] (WT ad ca u) [.ref (ad 0), .int a0]) (k2_QcV (.int (mX6_cell u a0))) 0 0 (fun _ => False) := by
  refine Met.ofW (cc := cX6_cell) (maxL := 2) (ret := (some .int)) (by decide) rfl ?_
  intro p e s m args below meth c s₁ B hml hv
  obtain ⟨rfl, hP, hK, hNW⟩ := hv
  have hx := B.exec
  have hb := B.bytes
  have hr := B.returns
  have hts := atoms_spec (ws := wsX6_cell) B.pre
  have hown : s.vm.findClass RX6 = some m.cls := findClass_of_methodNamed B.named
  have hlocks := B.notSynchronized
  have hin0 : ∀ w ∈ wsX00, w ∈ wsX6_cell := by decide +kernel
  have hin6 : ∀ w ∈ wsX60, w ∈ wsX6_cell := by decide +kernel
  have hl := lv_entry ([.ref (ad 0), .int a0]) (n := 2) (Nat.le_of_ble_eq_true rfl)
  rw [lg_entry_eq]
  generalize (lg_sl ([.ref (ad 0), .int a0]) ++ List.replicate (2 - (lg_sl ([.ref (ad 0), .int a0])).length) Slot.unset).toArray = ls at hl ⊢
  have hl : lv_has ls 2 [(0, .ref (ad 0)), (1, .int a0)] := hl
  refine lv_iload_n hx hb dX6_cell_0 rfl (lv_at hl 1 rfl) ?_
  refine hc_S (As := [.int a0]) (rest := []) ⟨hx, hb, hml, hown, hts⟩ (ct_X6_isPoint l a0) (va_cwS 1 hts gX6_cell_X6_isPoint rfl rfl rfl (by decide +kernel) ⟨Nat.le_of_ble_eq_true rfl, Nat.le_of_ble_eq_true rfl⟩) rfl hl.1 rfl (Nat.le_of_ble_eq_true rfl) dX6_cell_1 ⟨Nat.le_of_ble_eq_true rfl, Nat.le_of_ble_eq_true rfl⟩ ?_
  refine lv_if_eq (tgt := 23) hx hb dX6_cell_4 (by decide) (fun c_1 => ?_) (fun c_1 => ?_)
  · refine lv_iconst (v := (0 : Int32)) hx hb dX6_cell_23 (by decide) ?_
    exact W.iret (v := (0 : Int32)) hx hb hr (fun t ht _ => ⟨by rw [mX6_cell, if_pos c_1], ht⟩) (fun _ h => by cases h) dX6_cell_24
  · refine lv_aload_n hx hb dX6_cell_7 rfl (lv_at hl 0 rfl) ?_
    refine lv_aload_n hx hb dX6_cell_8 rfl (lv_at hl 0 rfl) ?_
    refine va_get (D := (dC, dI)) (ci := 2) (v := .ref (ad 1)) (C := RX6) (T := TX6) (N := 7) hx hb hts hin6 hown hK hP 0 rfl rfl 0 (by decide) (hts (.fieldLink RX6 12 "SnapTable" "widths" "LSnapTable$Axis;") (by decide +kernel)) (fun _ h9 => h9) rfl dX6_cell_9 ?_
    refine va_getN (D := (dC, dI)) (ci := 0) (v := .ref (ad 5)) (C := RX0) (T := TX0) (N := 5) hx hb hts hin0 hown hK hP 1 rfl rfl 1 (by decide) (va_Nw.use rfl hNW.1) (fun _ h9 => h9) rfl dX6_cell_12 ?_
    refine lv_iload_n hx hb dX6_cell_15 rfl (lv_at hl 1 rfl) ?_
    refine va_lald hx hb hK hP 5 1 rfl rfl (by first | with_reducible assumption | with_reducible exact pt_in (by with_reducible assumption) | with_reducible exact ptm_in (by with_reducible assumption) | exact LU.vin (B := 8) hm (by decide) (by with_reducible assumption) (by decide) | exact LU.vin (B := 4) hm (by decide) (by with_reducible assumption) (by decide) | exact LU.vin (B := 16) hm (by decide) (by with_reducible assumption) (by decide) | exact vp_in_nI (n := 0) (by decide) (by decide) | with_reducible exact gdm_in (by with_reducible assumption) (by with_reducible assumption) | with_reducible exact gd_in (by with_reducible assumption) (by with_reducible assumption)) dX6_cell_16 ?_
    refine hc_V (C := RX6) (ci := 2) (T := TX6) (N := 7) (As := [.long (u.2.2.2.1.2.2.2 a0.toNatClampNeg)]) (rest := []) ⟨hx, hb, hml, hown, hts⟩ (ct_X6_cellAt l dC dI ad ca u (u.2.2.2.1.2.2.2 a0.toNatClampNeg) (hd _ (pt_in (by with_reducible assumption)))) (cwV 1 hts gX6_cell_X6_cellAt rfl rfl rfl (by decide +kernel) ⟨Nat.le_of_ble_eq_true rfl, Nat.le_of_ble_eq_true rfl⟩) (hw_part hP [0, 1, 2, 3, 4, 5, 6, 7, 8, 9] rfl) (hK.sub [0, 1, 2, 3, 4, 5] rfl) hNW rfl rfl rfl hl.1 rfl (Nat.le_of_ble_eq_true rfl) dX6_cell_17 ⟨Nat.le_of_ble_eq_true rfl, Nat.le_of_ble_eq_true rfl⟩ ?_
    refine lv_goto (tgt := 24) hx hb dX6_cell_20 (by decide) ?_
    exact W.iret (v := (mX6_cellAt u (u.2.2.2.1.2.2.2 a0.toNatClampNeg))) hx hb hr (fun t ht _ => ⟨by rw [mX6_cell, if_neg c_1], ht⟩) (fun _ h => by cases h) dX6_cell_24

def mX6_mark (u : TS) (a0 : Int32) : Int64 := (if (mX6_isPoint a0) = 0 then (0 : Int64) else (mX6_markAt u (u.2.2.2.2.1.2.2.2 a0.toNatClampNeg)))
set_option maxHeartbeats 4000000 in
set_option maxRecDepth 100000 in
theorem ct_X6_mark (l : Launch) (dC : Nat → ClassId) (dI : Nat → Nat → Nat) (ad : Nat → Nat) (ca : Nat → ClassId) (u : TS) (a0 : Int32) (hd : ∀ i : Int32, vp_in i 8 → FP.fIsNaN (FP.fdiv (FP.d2f (mX1_valueOfSize (u.2.2.2.2.1.2.2.2 i.toNatClampNeg))) (FP.d2f (mX1_valueOfSize u.2.2.2.2.1.2.2.1))) = false) : Met l yX6_mark wsX6_mark { frames := 6, cells := 0, slots := 0, locals := 148 } (pR (dC, dI) vwCl [((ca 4), .long), ((ca 5), .long), ((ca 6), .long), ((ca 7), .int), ((ca 8), .long), ((ca 9), .long)] (WT ad ca u) [.ref (ad 0), .int a0]) (k2_QcV (.long (mX6_mark u a0))) 0 0 (fun _ => False) := by
  refine Met.ofW (cc := cX6_mark) (maxL := 2) (ret := (some .long)) (by decide) rfl ?_
  intro p e s m args below meth c s₁ B hml hv
  obtain ⟨rfl, hP, hK, hNW⟩ := hv
  have hx := B.exec
  have hb := B.bytes
  have hr := B.returns
  have hts := atoms_spec (ws := wsX6_mark) B.pre
  have hown : s.vm.findClass RX6 = some m.cls := findClass_of_methodNamed B.named
  have hlocks := B.notSynchronized
  have hin0 : ∀ w ∈ wsX00, w ∈ wsX6_mark := by decide +kernel
  have hin6 : ∀ w ∈ wsX60, w ∈ wsX6_mark := by decide +kernel
  have hl := lv_entry ([.ref (ad 0), .int a0]) (n := 2) (Nat.le_of_ble_eq_true rfl)
  rw [lg_entry_eq]
  generalize (lg_sl ([.ref (ad 0), .int a0]) ++ List.replicate (2 - (lg_sl ([.ref (ad 0), .int a0])).length) Slot.unset).toArray = ls at hl ⊢
  have hl : lv_has ls 2 [(0, .ref (ad 0)), (1, .int a0)] := hl
  refine lv_iload_n hx hb dX6_mark_0 rfl (lv_at hl 1 rfl) ?_
  refine hc_S (As := [.int a0]) (rest := []) ⟨hx, hb, hml, hown, hts⟩ (ct_X6_isPoint l a0) (va_cwS 1 hts gX6_mark_X6_isPoint rfl rfl rfl (by decide +kernel) ⟨Nat.le_of_ble_eq_true rfl, Nat.le_of_ble_eq_true rfl⟩) rfl hl.1 rfl (Nat.le_of_ble_eq_true rfl) dX6_mark_1 ⟨Nat.le_of_ble_eq_true rfl, Nat.le_of_ble_eq_true rfl⟩ ?_
  refine lv_if_eq (tgt := 23) hx hb dX6_mark_4 (by decide) (fun c_1 => ?_) (fun c_1 => ?_)
  · refine lv_lconst (v := (0 : Int64)) hx hb dX6_mark_23 (by decide) ?_
    exact W.lret (v := (0 : Int64)) hx hb hr (fun t ht _ => ⟨by rw [mX6_mark, if_pos c_1], ht⟩) (fun _ h => by cases h) dX6_mark_24
  · refine lv_aload_n hx hb dX6_mark_7 rfl (lv_at hl 0 rfl) ?_
    refine lv_aload_n hx hb dX6_mark_8 rfl (lv_at hl 0 rfl) ?_
    refine va_get (D := (dC, dI)) (ci := 2) (v := .ref (ad 2)) (C := RX6) (T := TX6) (N := 7) hx hb hts hin6 hown hK hP 0 rfl rfl 1 (by decide) (hts (.fieldLink RX6 18 "SnapTable" "heights" "LSnapTable$Axis;") (by decide +kernel)) (fun _ h9 => h9) rfl dX6_mark_9 ?_
    refine va_getN (D := (dC, dI)) (ci := 0) (v := .ref (ad 6)) (C := RX0) (T := TX0) (N := 5) hx hb hts hin0 hown hK hP 2 rfl rfl 1 (by decide) (va_Nw.use rfl hNW.1) (fun _ h9 => h9) rfl dX6_mark_12 ?_
    refine lv_iload_n hx hb dX6_mark_15 rfl (lv_at hl 1 rfl) ?_
    refine va_lald hx hb hK hP 6 2 rfl rfl (by first | with_reducible assumption | with_reducible exact pt_in (by with_reducible assumption) | with_reducible exact ptm_in (by with_reducible assumption) | exact LU.vin (B := 8) hm (by decide) (by with_reducible assumption) (by decide) | exact LU.vin (B := 4) hm (by decide) (by with_reducible assumption) (by decide) | exact LU.vin (B := 16) hm (by decide) (by with_reducible assumption) (by decide) | exact vp_in_nI (n := 0) (by decide) (by decide) | with_reducible exact gdm_in (by with_reducible assumption) (by with_reducible assumption) | with_reducible exact gd_in (by with_reducible assumption) (by with_reducible assumption)) dX6_mark_16 ?_
    refine hc_V (C := RX6) (ci := 2) (T := TX6) (N := 7) (As := [.long (u.2.2.2.2.1.2.2.2 a0.toNatClampNeg)]) (rest := []) ⟨hx, hb, hml, hown, hts⟩ (ct_X6_markAt l dC dI ad ca u (u.2.2.2.2.1.2.2.2 a0.toNatClampNeg) (hd _ (pt_in (by with_reducible assumption)))) (cwV 1 hts gX6_mark_X6_markAt rfl rfl rfl (by decide +kernel) ⟨Nat.le_of_ble_eq_true rfl, Nat.le_of_ble_eq_true rfl⟩) (hw_part hP [0, 1, 2, 3, 4, 5, 6, 7, 8, 9] rfl) (hK.sub [0, 1, 2, 3, 4, 5] rfl) hNW rfl rfl rfl hl.1 rfl (Nat.le_of_ble_eq_true rfl) dX6_mark_17 ⟨Nat.le_of_ble_eq_true rfl, Nat.le_of_ble_eq_true rfl⟩ ?_
    refine lv_goto (tgt := 24) hx hb dX6_mark_20 (by decide) ?_
    exact W.lret (v := (mX6_markAt u (u.2.2.2.2.1.2.2.2 a0.toNatClampNeg))) hx hb hr (fun t ht _ => ⟨by rw [mX6_mark, if_neg c_1], ht⟩) (fun _ h => by cases h) dX6_mark_24

def mX6_gap (u : TS) (a0 : Int32) (a1 : Int32) : Int32 := (if (mX6_isPoint a0) = 0 then (0 : Int32) else (if (mX6_isPoint a1) = 0 then (0 : Int32) else (if 0 ≤ ((mX6_cellAt u (u.2.2.2.1.2.2.2 a0.toNatClampNeg)) - (mX6_cellAt u (u.2.2.2.1.2.2.2 a1.toNatClampNeg))) then ((mX6_cellAt u (u.2.2.2.1.2.2.2 a0.toNatClampNeg)) - (mX6_cellAt u (u.2.2.2.1.2.2.2 a1.toNatClampNeg))) else 0 - ((mX6_cellAt u (u.2.2.2.1.2.2.2 a0.toNatClampNeg)) - (mX6_cellAt u (u.2.2.2.1.2.2.2 a1.toNatClampNeg))))))
set_option maxHeartbeats 4000000 in
set_option maxRecDepth 100000 in
theorem ct_X6_gap (l : Launch) (dC : Nat → ClassId) (dI : Nat → Nat → Nat) (ad : Nat → Nat) (ca : Nat → ClassId) (u : TS) (a0 : Int32) (a1 : Int32) (hd : ∀ i : Int32, vp_in i 8 → FP.dIsNaN (FP.ddiv (mX1_valueOfSize (u.2.2.2.1.2.2.2 i.toNatClampNeg)) (mX1_valueOfSize u.2.2.2.1.2.2.1)) = false) : Met l yX6_gap wsX6_gap { frames := 6, cells := 0, slots := 0, locals := 148 } (pR (dC, dI) vwCl [((ca 4), .long), ((ca 5), .long), ((ca 6), .long), ((ca 7), .int), ((ca 8), .long), ((ca 9), .long)] (WT ad ca u) [.ref (ad 0), .int a0, .int a1]) (k2_QcV (.int (mX6_gap u a0 a1))) 0 0 (fun _ => False) := by
  refine Met.ofW (cc := cX6_gap) (maxL := 3) (ret := (some .int)) (by decide) rfl ?_
  intro p e s m args below meth c s₁ B hml hv
  obtain ⟨rfl, hP, hK, hNW⟩ := hv
  have hx := B.exec
  have hb := B.bytes
  have hr := B.returns
  have hts := atoms_spec (ws := wsX6_gap) B.pre
  have hown : s.vm.findClass RX6 = some m.cls := findClass_of_methodNamed B.named
  have hlocks := B.notSynchronized
  have hin0 : ∀ w ∈ wsX00, w ∈ wsX6_gap := by decide +kernel
  have hin6 : ∀ w ∈ wsX60, w ∈ wsX6_gap := by decide +kernel
  have hl := lv_entry ([.ref (ad 0), .int a0, .int a1]) (n := 3) (Nat.le_of_ble_eq_true rfl)
  rw [lg_entry_eq]
  generalize (lg_sl ([.ref (ad 0), .int a0, .int a1]) ++ List.replicate (3 - (lg_sl ([.ref (ad 0), .int a0, .int a1])).length) Slot.unset).toArray = ls at hl ⊢
  have hl : lv_has ls 3 [(0, .ref (ad 0)), (1, .int a0), (2, .int a1)] := hl
  refine lv_iload_n hx hb dX6_gap_0 rfl (lv_at hl 1 rfl) ?_
  refine hc_S (As := [.int a0]) (rest := []) ⟨hx, hb, hml, hown, hts⟩ (ct_X6_isPoint l a0) (va_cwS 1 hts gX6_gap_X6_isPoint rfl rfl rfl (by decide +kernel) ⟨Nat.le_of_ble_eq_true rfl, Nat.le_of_ble_eq_true rfl⟩) rfl hl.1 rfl (Nat.le_of_ble_eq_true rfl) dX6_gap_1 ⟨Nat.le_of_ble_eq_true rfl, Nat.le_of_ble_eq_true rfl⟩ ?_
  refine lv_if_eq (tgt := 47) hx hb dX6_gap_4 (by decide) (fun c_1 => ?_) (fun c_1 => ?_)
  · refine lv_iconst (v := (0 : Int32)) hx hb dX6_gap_47 (by decide) ?_
    exact W.iret (v := (0 : Int32)) hx hb hr (fun t ht _ => ⟨by rw [mX6_gap, if_pos c_1], ht⟩) (fun _ h => by cases h) dX6_gap_48
  · refine lv_iload_n hx hb dX6_gap_7 rfl (lv_at hl 2 rfl) ?_
    refine hc_S (As := [.int a1]) (rest := []) ⟨hx, hb, hml, hown, hts⟩ (ct_X6_isPoint l a1) (va_cwS 1 hts gX6_gap_X6_isPoint rfl rfl rfl (by decide +kernel) ⟨Nat.le_of_ble_eq_true rfl, Nat.le_of_ble_eq_true rfl⟩) rfl hl.1 rfl (Nat.le_of_ble_eq_true rfl) dX6_gap_8 ⟨Nat.le_of_ble_eq_true rfl, Nat.le_of_ble_eq_true rfl⟩ ?_
    refine lv_if_eq (tgt := 47) hx hb dX6_gap_11 (by decide) (fun c_2 => ?_) (fun c_2 => ?_)
    · refine lv_iconst (v := (0 : Int32)) hx hb dX6_gap_47 (by decide) ?_
      exact W.iret (v := (0 : Int32)) hx hb hr (fun t ht _ => ⟨by rw [mX6_gap, if_neg c_1, if_pos c_2], ht⟩) (fun _ h => by cases h) dX6_gap_48
    · refine lv_aload_n hx hb dX6_gap_14 rfl (lv_at hl 0 rfl) ?_
      refine lv_aload_n hx hb dX6_gap_15 rfl (lv_at hl 0 rfl) ?_
      refine va_get (D := (dC, dI)) (ci := 2) (v := .ref (ad 1)) (C := RX6) (T := TX6) (N := 7) hx hb hts hin6 hown hK hP 0 rfl rfl 0 (by decide) (hts (.fieldLink RX6 12 "SnapTable" "widths" "LSnapTable$Axis;") (by decide +kernel)) (fun _ h9 => h9) rfl dX6_gap_16 ?_
      refine va_getN (D := (dC, dI)) (ci := 0) (v := .ref (ad 5)) (C := RX0) (T := TX0) (N := 5) hx hb hts hin0 hown hK hP 1 rfl rfl 1 (by decide) (va_Nw.use rfl hNW.1) (fun _ h9 => h9) rfl dX6_gap_19 ?_
      refine lv_iload_n hx hb dX6_gap_22 rfl (lv_at hl 1 rfl) ?_
      refine va_lald hx hb hK hP 5 1 rfl rfl (by first | with_reducible assumption | with_reducible exact pt_in (by with_reducible assumption) | with_reducible exact ptm_in (by with_reducible assumption) | exact LU.vin (B := 8) hm (by decide) (by with_reducible assumption) (by decide) | exact LU.vin (B := 4) hm (by decide) (by with_reducible assumption) (by decide) | exact LU.vin (B := 16) hm (by decide) (by with_reducible assumption) (by decide) | exact vp_in_nI (n := 0) (by decide) (by decide) | with_reducible exact gdm_in (by with_reducible assumption) (by with_reducible assumption) | with_reducible exact gd_in (by with_reducible assumption) (by with_reducible assumption)) dX6_gap_23 ?_
      refine hc_V (C := RX6) (ci := 2) (T := TX6) (N := 7) (As := [.long (u.2.2.2.1.2.2.2 a0.toNatClampNeg)]) (rest := []) ⟨hx, hb, hml, hown, hts⟩ (ct_X6_cellAt l dC dI ad ca u (u.2.2.2.1.2.2.2 a0.toNatClampNeg) (hd _ (pt_in (by with_reducible assumption)))) (cwV 1 hts gX6_gap_X6_cellAt rfl rfl rfl (by decide +kernel) ⟨Nat.le_of_ble_eq_true rfl, Nat.le_of_ble_eq_true rfl⟩) (hw_part hP [0, 1, 2, 3, 4, 5, 6, 7, 8, 9] rfl) (hK.sub [0, 1, 2, 3, 4, 5] rfl) hNW rfl rfl rfl hl.1 rfl (Nat.le_of_ble_eq_true rfl) dX6_gap_24 ⟨Nat.le_of_ble_eq_true rfl, Nat.le_of_ble_eq_true rfl⟩ ?_
      refine lv_aload_n hx hb dX6_gap_27 rfl (lv_at hl 0 rfl) ?_
      refine lv_aload_n hx hb dX6_gap_28 rfl (lv_at hl 0 rfl) ?_
      refine va_get (D := (dC, dI)) (ci := 2) (v := .ref (ad 1)) (C := RX6) (T := TX6) (N := 7) hx hb hts hin6 hown hK hP 0 rfl rfl 0 (by decide) (hts (.fieldLink RX6 12 "SnapTable" "widths" "LSnapTable$Axis;") (by decide +kernel)) (fun _ h9 => h9) rfl dX6_gap_29 ?_
      refine va_getN (D := (dC, dI)) (ci := 0) (v := .ref (ad 5)) (C := RX0) (T := TX0) (N := 5) hx hb hts hin0 hown hK hP 1 rfl rfl 1 (by decide) (va_Nw.use rfl hNW.1) (fun _ h9 => h9) rfl dX6_gap_32 ?_
      refine lv_iload_n hx hb dX6_gap_35 rfl (lv_at hl 2 rfl) ?_
      refine va_lald hx hb hK hP 5 1 rfl rfl (by first | with_reducible assumption | with_reducible exact pt_in (by with_reducible assumption) | with_reducible exact ptm_in (by with_reducible assumption) | exact LU.vin (B := 8) hm (by decide) (by with_reducible assumption) (by decide) | exact LU.vin (B := 4) hm (by decide) (by with_reducible assumption) (by decide) | exact LU.vin (B := 16) hm (by decide) (by with_reducible assumption) (by decide) | exact vp_in_nI (n := 0) (by decide) (by decide) | with_reducible exact gdm_in (by with_reducible assumption) (by with_reducible assumption) | with_reducible exact gd_in (by with_reducible assumption) (by with_reducible assumption)) dX6_gap_36 ?_
      refine hc_V (C := RX6) (ci := 2) (T := TX6) (N := 7) (As := [.long (u.2.2.2.1.2.2.2 a1.toNatClampNeg)]) (rest := [.int (mX6_cellAt u (u.2.2.2.1.2.2.2 a0.toNatClampNeg))]) ⟨hx, hb, hml, hown, hts⟩ (ct_X6_cellAt l dC dI ad ca u (u.2.2.2.1.2.2.2 a1.toNatClampNeg) (hd _ (pt_in (by with_reducible assumption)))) (cwV 1 hts gX6_gap_X6_cellAt rfl rfl rfl (by decide +kernel) ⟨Nat.le_of_ble_eq_true rfl, Nat.le_of_ble_eq_true rfl⟩) (hw_part hP [0, 1, 2, 3, 4, 5, 6, 7, 8, 9] rfl) (hK.sub [0, 1, 2, 3, 4, 5] rfl) hNW rfl rfl rfl hl.1 rfl (Nat.le_of_ble_eq_true rfl) dX6_gap_37 ⟨Nat.le_of_ble_eq_true rfl, Nat.le_of_ble_eq_true rfl⟩ ?_
      refine lv_isub hx hb dX6_gap_40 ?_
      refine va_mabs hx hb (by rw [hml]; exact hl.1.symm) hown (hts (.methodLink RX6 156 Lib.Math.abs.name) (by decide +kernel)) (hts (.static Lib.Math.abs.name) (by decide +kernel)) (hts (.initialized "java/lang/Math") (by decide +kernel)) (hts (.code Lib.Math.abs.name Lib.Math.abs.code 1 (some .int)) (by decide +kernel)) (Nat.le_of_ble_eq_true rfl) (Nat.le_of_ble_eq_true rfl) (Nat.zero_le _) (Nat.zero_le _) dX6_gap_41 ?_
      refine lv_goto (tgt := 48) hx hb dX6_gap_44 (by decide) ?_
      exact W.iret (v := (if 0 ≤ ((mX6_cellAt u (u.2.2.2.1.2.2.2 a0.toNatClampNeg)) - (mX6_cellAt u (u.2.2.2.1.2.2.2 a1.toNatClampNeg))) then ((mX6_cellAt u (u.2.2.2.1.2.2.2 a0.toNatClampNeg)) - (mX6_cellAt u (u.2.2.2.1.2.2.2 a1.toNatClampNeg))) else 0 - ((mX6_cellAt u (u.2.2.2.1.2.2.2 a0.toNatClampNeg)) - (mX6_cellAt u (u.2.2.2.1.2.2.2 a1.toNatClampNeg))))) hx hb hr (fun t ht _ => ⟨by rw [mX6_gap, if_neg c_1, if_neg c_2], ht⟩) (fun _ h => by cases h) dX6_gap_48

def mX6_rise (u : TS) (a0 : Int32) (a1 : Int32) : Int64 := (if (mX6_isPoint a0) = 0 then (0 : Int64) else (if (mX6_isPoint a1) = 0 then (0 : Int64) else (if 0 < ((mX6_markAt u (u.2.2.2.2.1.2.2.2 a0.toNatClampNeg)) - (mX6_markAt u (u.2.2.2.2.1.2.2.2 a1.toNatClampNeg))) then ((mX6_markAt u (u.2.2.2.2.1.2.2.2 a0.toNatClampNeg)) - (mX6_markAt u (u.2.2.2.2.1.2.2.2 a1.toNatClampNeg))) else -((mX6_markAt u (u.2.2.2.2.1.2.2.2 a0.toNatClampNeg)) - (mX6_markAt u (u.2.2.2.2.1.2.2.2 a1.toNatClampNeg))))))
set_option maxHeartbeats 4000000 in
set_option maxRecDepth 100000 in
theorem ct_X6_rise (l : Launch) (dC : Nat → ClassId) (dI : Nat → Nat → Nat) (ad : Nat → Nat) (ca : Nat → ClassId) (u : TS) (a0 : Int32) (a1 : Int32) (hd : ∀ i : Int32, vp_in i 8 → FP.fIsNaN (FP.fdiv (FP.d2f (mX1_valueOfSize (u.2.2.2.2.1.2.2.2 i.toNatClampNeg))) (FP.d2f (mX1_valueOfSize u.2.2.2.2.1.2.2.1))) = false) : Met l yX6_rise wsX6_rise { frames := 6, cells := 0, slots := 0, locals := 148 } (pR (dC, dI) vwCl [((ca 4), .long), ((ca 5), .long), ((ca 6), .long), ((ca 7), .int), ((ca 8), .long), ((ca 9), .long)] (WT ad ca u) [.ref (ad 0), .int a0, .int a1]) (k2_QcV (.long (mX6_rise u a0 a1))) 0 0 (fun _ => False) := by
  refine Met.ofW (cc := cX6_rise) (maxL := 3) (ret := (some .long)) (by decide) rfl ?_
  intro p e s m args below meth c s₁ B hml hv
  obtain ⟨rfl, hP, hK, hNW⟩ := hv
  have hx := B.exec
  have hb := B.bytes
  have hr := B.returns
  have hts := atoms_spec (ws := wsX6_rise) B.pre
  have hown : s.vm.findClass RX6 = some m.cls := findClass_of_methodNamed B.named
  have hlocks := B.notSynchronized
  have hin0 : ∀ w ∈ wsX00, w ∈ wsX6_rise := by decide +kernel
  have hin6 : ∀ w ∈ wsX60, w ∈ wsX6_rise := by decide +kernel
  have hl := lv_entry ([.ref (ad 0), .int a0, .int a1]) (n := 3) (Nat.le_of_ble_eq_true rfl)
  rw [lg_entry_eq]
  generalize (lg_sl ([.ref (ad 0), .int a0, .int a1]) ++ List.replicate (3 - (lg_sl ([.ref (ad 0), .int a0, .int a1])).length) Slot.unset).toArray = ls at hl ⊢
  have hl : lv_has ls 3 [(0, .ref (ad 0)), (1, .int a0), (2, .int a1)] := hl
  refine lv_iload_n hx hb dX6_rise_0 rfl (lv_at hl 1 rfl) ?_
  refine hc_S (As := [.int a0]) (rest := []) ⟨hx, hb, hml, hown, hts⟩ (ct_X6_isPoint l a0) (va_cwS 1 hts gX6_rise_X6_isPoint rfl rfl rfl (by decide +kernel) ⟨Nat.le_of_ble_eq_true rfl, Nat.le_of_ble_eq_true rfl⟩) rfl hl.1 rfl (Nat.le_of_ble_eq_true rfl) dX6_rise_1 ⟨Nat.le_of_ble_eq_true rfl, Nat.le_of_ble_eq_true rfl⟩ ?_
  refine lv_if_eq (tgt := 47) hx hb dX6_rise_4 (by decide) (fun c_1 => ?_) (fun c_1 => ?_)
  · refine lv_lconst (v := (0 : Int64)) hx hb dX6_rise_47 (by decide) ?_
    exact W.lret (v := (0 : Int64)) hx hb hr (fun t ht _ => ⟨by rw [mX6_rise, if_pos c_1], ht⟩) (fun _ h => by cases h) dX6_rise_48
  · refine lv_iload_n hx hb dX6_rise_7 rfl (lv_at hl 2 rfl) ?_
    refine hc_S (As := [.int a1]) (rest := []) ⟨hx, hb, hml, hown, hts⟩ (ct_X6_isPoint l a1) (va_cwS 1 hts gX6_rise_X6_isPoint rfl rfl rfl (by decide +kernel) ⟨Nat.le_of_ble_eq_true rfl, Nat.le_of_ble_eq_true rfl⟩) rfl hl.1 rfl (Nat.le_of_ble_eq_true rfl) dX6_rise_8 ⟨Nat.le_of_ble_eq_true rfl, Nat.le_of_ble_eq_true rfl⟩ ?_
    refine lv_if_eq (tgt := 47) hx hb dX6_rise_11 (by decide) (fun c_2 => ?_) (fun c_2 => ?_)
    · refine lv_lconst (v := (0 : Int64)) hx hb dX6_rise_47 (by decide) ?_
      exact W.lret (v := (0 : Int64)) hx hb hr (fun t ht _ => ⟨by rw [mX6_rise, if_neg c_1, if_pos c_2], ht⟩) (fun _ h => by cases h) dX6_rise_48
    · refine lv_aload_n hx hb dX6_rise_14 rfl (lv_at hl 0 rfl) ?_
      refine lv_aload_n hx hb dX6_rise_15 rfl (lv_at hl 0 rfl) ?_
      refine va_get (D := (dC, dI)) (ci := 2) (v := .ref (ad 2)) (C := RX6) (T := TX6) (N := 7) hx hb hts hin6 hown hK hP 0 rfl rfl 1 (by decide) (hts (.fieldLink RX6 18 "SnapTable" "heights" "LSnapTable$Axis;") (by decide +kernel)) (fun _ h9 => h9) rfl dX6_rise_16 ?_
      refine va_getN (D := (dC, dI)) (ci := 0) (v := .ref (ad 6)) (C := RX0) (T := TX0) (N := 5) hx hb hts hin0 hown hK hP 2 rfl rfl 1 (by decide) (va_Nw.use rfl hNW.1) (fun _ h9 => h9) rfl dX6_rise_19 ?_
      refine lv_iload_n hx hb dX6_rise_22 rfl (lv_at hl 1 rfl) ?_
      refine va_lald hx hb hK hP 6 2 rfl rfl (by first | with_reducible assumption | with_reducible exact pt_in (by with_reducible assumption) | with_reducible exact ptm_in (by with_reducible assumption) | exact LU.vin (B := 8) hm (by decide) (by with_reducible assumption) (by decide) | exact LU.vin (B := 4) hm (by decide) (by with_reducible assumption) (by decide) | exact LU.vin (B := 16) hm (by decide) (by with_reducible assumption) (by decide) | exact vp_in_nI (n := 0) (by decide) (by decide) | with_reducible exact gdm_in (by with_reducible assumption) (by with_reducible assumption) | with_reducible exact gd_in (by with_reducible assumption) (by with_reducible assumption)) dX6_rise_23 ?_
      refine hc_V (C := RX6) (ci := 2) (T := TX6) (N := 7) (As := [.long (u.2.2.2.2.1.2.2.2 a0.toNatClampNeg)]) (rest := []) ⟨hx, hb, hml, hown, hts⟩ (ct_X6_markAt l dC dI ad ca u (u.2.2.2.2.1.2.2.2 a0.toNatClampNeg) (hd _ (pt_in (by with_reducible assumption)))) (cwV 1 hts gX6_rise_X6_markAt rfl rfl rfl (by decide +kernel) ⟨Nat.le_of_ble_eq_true rfl, Nat.le_of_ble_eq_true rfl⟩) (hw_part hP [0, 1, 2, 3, 4, 5, 6, 7, 8, 9] rfl) (hK.sub [0, 1, 2, 3, 4, 5] rfl) hNW rfl rfl rfl hl.1 rfl (Nat.le_of_ble_eq_true rfl) dX6_rise_24 ⟨Nat.le_of_ble_eq_true rfl, Nat.le_of_ble_eq_true rfl⟩ ?_
      refine lv_aload_n hx hb dX6_rise_27 rfl (lv_at hl 0 rfl) ?_
      refine lv_aload_n hx hb dX6_rise_28 rfl (lv_at hl 0 rfl) ?_
      refine va_get (D := (dC, dI)) (ci := 2) (v := .ref (ad 2)) (C := RX6) (T := TX6) (N := 7) hx hb hts hin6 hown hK hP 0 rfl rfl 1 (by decide) (hts (.fieldLink RX6 18 "SnapTable" "heights" "LSnapTable$Axis;") (by decide +kernel)) (fun _ h9 => h9) rfl dX6_rise_29 ?_
      refine va_getN (D := (dC, dI)) (ci := 0) (v := .ref (ad 6)) (C := RX0) (T := TX0) (N := 5) hx hb hts hin0 hown hK hP 2 rfl rfl 1 (by decide) (va_Nw.use rfl hNW.1) (fun _ h9 => h9) rfl dX6_rise_32 ?_
      refine lv_iload_n hx hb dX6_rise_35 rfl (lv_at hl 2 rfl) ?_
      refine va_lald hx hb hK hP 6 2 rfl rfl (by first | with_reducible assumption | with_reducible exact pt_in (by with_reducible assumption) | with_reducible exact ptm_in (by with_reducible assumption) | exact LU.vin (B := 8) hm (by decide) (by with_reducible assumption) (by decide) | exact LU.vin (B := 4) hm (by decide) (by with_reducible assumption) (by decide) | exact LU.vin (B := 16) hm (by decide) (by with_reducible assumption) (by decide) | exact vp_in_nI (n := 0) (by decide) (by decide) | with_reducible exact gdm_in (by with_reducible assumption) (by with_reducible assumption) | with_reducible exact gd_in (by with_reducible assumption) (by with_reducible assumption)) dX6_rise_36 ?_
      refine hc_V (C := RX6) (ci := 2) (T := TX6) (N := 7) (As := [.long (u.2.2.2.2.1.2.2.2 a1.toNatClampNeg)]) (rest := [.long (mX6_markAt u (u.2.2.2.2.1.2.2.2 a0.toNatClampNeg))]) ⟨hx, hb, hml, hown, hts⟩ (ct_X6_markAt l dC dI ad ca u (u.2.2.2.2.1.2.2.2 a1.toNatClampNeg) (hd _ (pt_in (by with_reducible assumption)))) (cwV 1 hts gX6_rise_X6_markAt rfl rfl rfl (by decide +kernel) ⟨Nat.le_of_ble_eq_true rfl, Nat.le_of_ble_eq_true rfl⟩) (hw_part hP [0, 1, 2, 3, 4, 5, 6, 7, 8, 9] rfl) (hK.sub [0, 1, 2, 3, 4, 5] rfl) hNW rfl rfl rfl hl.1 rfl (Nat.le_of_ble_eq_true rfl) dX6_rise_37 ⟨Nat.le_of_ble_eq_true rfl, Nat.le_of_ble_eq_true rfl⟩ ?_
      refine lv_lsub hx hb dX6_rise_40 ?_
      refine va_mabs_long hx hb (by rw [hml]; exact hl.1.symm) hown (hts (.methodLink RX6 161 Lib.MathLoose.abs_long.x) (by decide +kernel)) (hts (.static Lib.MathLoose.abs_long.x) (by decide +kernel)) (hts (.initialized "java/lang/Math") (by decide +kernel)) (hts (.code Lib.MathLoose.abs_long.x Lib.MathLoose.abs_long.code 2 (some .long)) (by decide +kernel)) (Nat.le_of_ble_eq_true rfl) (Nat.le_of_ble_eq_true rfl) (Nat.zero_le _) (Nat.zero_le _) dX6_rise_41 ?_
      refine lv_goto (tgt := 48) hx hb dX6_rise_44 (by decide) ?_
      exact W.lret (v := (if 0 < ((mX6_markAt u (u.2.2.2.2.1.2.2.2 a0.toNatClampNeg)) - (mX6_markAt u (u.2.2.2.2.1.2.2.2 a1.toNatClampNeg))) then ((mX6_markAt u (u.2.2.2.2.1.2.2.2 a0.toNatClampNeg)) - (mX6_markAt u (u.2.2.2.2.1.2.2.2 a1.toNatClampNeg))) else -((mX6_markAt u (u.2.2.2.2.1.2.2.2 a0.toNatClampNeg)) - (mX6_markAt u (u.2.2.2.2.1.2.2.2 a1.toNatClampNeg))))) hx hb hr (fun t ht _ => ⟨by rw [mX6_rise, if_neg c_1, if_neg c_2], ht⟩) (fun _ h => by cases h) dX6_rise_48

def mX6_column (u : TS) (a0 : Int32) : Int32 := (if (mX6_isEnd a0) = 0 then (0 : Int32) else (mX6_cellAt u (mX0_outermost u.2.2.2.1 a0)))
set_option maxHeartbeats 4000000 in
set_option maxRecDepth 100000 in
theorem ct_X6_column (l : Launch) (dC : Nat → ClassId) (dI : Nat → Nat → Nat) (ad : Nat → Nat) (ca : Nat → ClassId) (u : TS) (a0 : Int32) (hd : FP.dIsNaN (FP.ddiv (mX1_valueOfSize (mX0_outermost u.2.2.2.1 a0)) (mX1_valueOfSize u.2.2.2.1.2.2.1)) = false) : Met l yX6_column wsX6_column { frames := 6, cells := 0, slots := 0, locals := 148 } (pR (dC, dI) vwCl [((ca 4), .long), ((ca 5), .long), ((ca 6), .long), ((ca 7), .int), ((ca 8), .long), ((ca 9), .long)] (WT ad ca u) [.ref (ad 0), .int a0]) (k2_QcV (.int (mX6_column u a0))) 0 0 (fun _ => False) := by
  refine Met.ofW (cc := cX6_column) (maxL := 2) (ret := (some .int)) (by decide) rfl ?_
  intro p e s m args below meth c s₁ B hml hv
  obtain ⟨rfl, hP, hK, hNW⟩ := hv
  have hx := B.exec
  have hb := B.bytes
  have hr := B.returns
  have hts := atoms_spec (ws := wsX6_column) B.pre
  have hown : s.vm.findClass RX6 = some m.cls := findClass_of_methodNamed B.named
  have hlocks := B.notSynchronized
  have hin6 : ∀ w ∈ wsX60, w ∈ wsX6_column := by decide +kernel
  have hl := lv_entry ([.ref (ad 0), .int a0]) (n := 2) (Nat.le_of_ble_eq_true rfl)
  rw [lg_entry_eq]
  generalize (lg_sl ([.ref (ad 0), .int a0]) ++ List.replicate (2 - (lg_sl ([.ref (ad 0), .int a0])).length) Slot.unset).toArray = ls at hl ⊢
  have hl : lv_has ls 2 [(0, .ref (ad 0)), (1, .int a0)] := hl
  refine lv_iload_n hx hb dX6_column_0 rfl (lv_at hl 1 rfl) ?_
  refine hc_S (As := [.int a0]) (rest := []) ⟨hx, hb, hml, hown, hts⟩ (ct_X6_isEnd l a0) (va_cwS 1 hts gX6_column_X6_isEnd rfl rfl rfl (by decide +kernel) ⟨Nat.le_of_ble_eq_true rfl, Nat.le_of_ble_eq_true rfl⟩) rfl hl.1 rfl (Nat.le_of_ble_eq_true rfl) dX6_column_1 ⟨Nat.le_of_ble_eq_true rfl, Nat.le_of_ble_eq_true rfl⟩ ?_
  refine lv_if_eq (tgt := 22) hx hb dX6_column_4 (by decide) (fun c_1 => ?_) (fun c_1 => ?_)
  · refine lv_iconst (v := (0 : Int32)) hx hb dX6_column_22 (by decide) ?_
    exact W.iret (v := (0 : Int32)) hx hb hr (fun t ht _ => ⟨by rw [mX6_column, if_pos c_1], ht⟩) (fun _ h => by cases h) dX6_column_23
  · refine lv_aload_n hx hb dX6_column_7 rfl (lv_at hl 0 rfl) ?_
    refine lv_aload_n hx hb dX6_column_8 rfl (lv_at hl 0 rfl) ?_
    refine va_get (D := (dC, dI)) (ci := 2) (v := .ref (ad 1)) (C := RX6) (T := TX6) (N := 7) hx hb hts hin6 hown hK hP 0 rfl rfl 0 (by decide) (hts (.fieldLink RX6 12 "SnapTable" "widths" "LSnapTable$Axis;") (by decide +kernel)) (fun _ h9 => h9) rfl dX6_column_9 ?_
    refine lv_iload_n hx hb dX6_column_12 rfl (lv_at hl 1 rfl) ?_
    refine hc_V (C := RX0) (ci := 0) (T := TX0) (N := 5) (As := [.int a0]) (rest := [.ref (ad 0)]) ⟨hx, hb, hml, hown, hts⟩ (ct_X0_outermost l dC dI (ad 1) (ad 5) (ca 5) 0 u.2.2.2.1 a0) (cwV 1 hts gX6_column_X0_outermost rfl rfl rfl (by decide +kernel) ⟨Nat.le_of_ble_eq_true rfl, Nat.le_of_ble_eq_true rfl⟩) (hw_part hP [1, 5] rfl) (hK.sub [1] rfl) hNW rfl rfl rfl hl.1 rfl (Nat.le_of_ble_eq_true rfl) dX6_column_13 ⟨Nat.le_of_ble_eq_true rfl, Nat.le_of_ble_eq_true rfl⟩ ?_
    refine hc_V (C := RX6) (ci := 2) (T := TX6) (N := 7) (As := [.long (mX0_outermost u.2.2.2.1 a0)]) (rest := []) ⟨hx, hb, hml, hown, hts⟩ (ct_X6_cellAt l dC dI ad ca u (mX0_outermost u.2.2.2.1 a0) (by with_reducible assumption)) (cwV 1 hts gX6_column_X6_cellAt rfl rfl rfl (by decide +kernel) ⟨Nat.le_of_ble_eq_true rfl, Nat.le_of_ble_eq_true rfl⟩) (hw_part hP [0, 1, 2, 3, 4, 5, 6, 7, 8, 9] rfl) (hK.sub [0, 1, 2, 3, 4, 5] rfl) hNW rfl rfl rfl hl.1 rfl (Nat.le_of_ble_eq_true rfl) dX6_column_16 ⟨Nat.le_of_ble_eq_true rfl, Nat.le_of_ble_eq_true rfl⟩ ?_
    refine lv_goto (tgt := 23) hx hb dX6_column_19 (by decide) ?_
    exact W.iret (v := (mX6_cellAt u (mX0_outermost u.2.2.2.1 a0))) hx hb hr (fun t ht _ => ⟨by rw [mX6_column, if_neg c_1], ht⟩) (fun _ h => by cases h) dX6_column_23

def mX6_row (u : TS) (a0 : Int32) : Int64 := (if (mX6_isEnd a0) = 0 then (0 : Int64) else (mX6_markAt u (mX0_outermost u.2.2.2.2.1 a0)))
set_option maxHeartbeats 4000000 in
set_option maxRecDepth 100000 in
theorem ct_X6_row (l : Launch) (dC : Nat → ClassId) (dI : Nat → Nat → Nat) (ad : Nat → Nat) (ca : Nat → ClassId) (u : TS) (a0 : Int32) (hd : FP.fIsNaN (FP.fdiv (FP.d2f (mX1_valueOfSize (mX0_outermost u.2.2.2.2.1 a0))) (FP.d2f (mX1_valueOfSize u.2.2.2.2.1.2.2.1))) = false) : Met l yX6_row wsX6_row { frames := 6, cells := 0, slots := 0, locals := 148 } (pR (dC, dI) vwCl [((ca 4), .long), ((ca 5), .long), ((ca 6), .long), ((ca 7), .int), ((ca 8), .long), ((ca 9), .long)] (WT ad ca u) [.ref (ad 0), .int a0]) (k2_QcV (.long (mX6_row u a0))) 0 0 (fun _ => False) := by
  refine Met.ofW (cc := cX6_row) (maxL := 2) (ret := (some .long)) (by decide) rfl ?_
  intro p e s m args below meth c s₁ B hml hv
  obtain ⟨rfl, hP, hK, hNW⟩ := hv
  have hx := B.exec
  have hb := B.bytes
  have hr := B.returns
  have hts := atoms_spec (ws := wsX6_row) B.pre
  have hown : s.vm.findClass RX6 = some m.cls := findClass_of_methodNamed B.named
  have hlocks := B.notSynchronized
  have hin6 : ∀ w ∈ wsX60, w ∈ wsX6_row := by decide +kernel
  have hl := lv_entry ([.ref (ad 0), .int a0]) (n := 2) (Nat.le_of_ble_eq_true rfl)
  rw [lg_entry_eq]
  generalize (lg_sl ([.ref (ad 0), .int a0]) ++ List.replicate (2 - (lg_sl ([.ref (ad 0), .int a0])).length) Slot.unset).toArray = ls at hl ⊢
  have hl : lv_has ls 2 [(0, .ref (ad 0)), (1, .int a0)] := hl
  refine lv_iload_n hx hb dX6_row_0 rfl (lv_at hl 1 rfl) ?_
  refine hc_S (As := [.int a0]) (rest := []) ⟨hx, hb, hml, hown, hts⟩ (ct_X6_isEnd l a0) (va_cwS 1 hts gX6_row_X6_isEnd rfl rfl rfl (by decide +kernel) ⟨Nat.le_of_ble_eq_true rfl, Nat.le_of_ble_eq_true rfl⟩) rfl hl.1 rfl (Nat.le_of_ble_eq_true rfl) dX6_row_1 ⟨Nat.le_of_ble_eq_true rfl, Nat.le_of_ble_eq_true rfl⟩ ?_
  refine lv_if_eq (tgt := 22) hx hb dX6_row_4 (by decide) (fun c_1 => ?_) (fun c_1 => ?_)
  · refine lv_lconst (v := (0 : Int64)) hx hb dX6_row_22 (by decide) ?_
    exact W.lret (v := (0 : Int64)) hx hb hr (fun t ht _ => ⟨by rw [mX6_row, if_pos c_1], ht⟩) (fun _ h => by cases h) dX6_row_23
  · refine lv_aload_n hx hb dX6_row_7 rfl (lv_at hl 0 rfl) ?_
    refine lv_aload_n hx hb dX6_row_8 rfl (lv_at hl 0 rfl) ?_
    refine va_get (D := (dC, dI)) (ci := 2) (v := .ref (ad 2)) (C := RX6) (T := TX6) (N := 7) hx hb hts hin6 hown hK hP 0 rfl rfl 1 (by decide) (hts (.fieldLink RX6 18 "SnapTable" "heights" "LSnapTable$Axis;") (by decide +kernel)) (fun _ h9 => h9) rfl dX6_row_9 ?_
    refine lv_iload_n hx hb dX6_row_12 rfl (lv_at hl 1 rfl) ?_
    refine hc_V (C := RX0) (ci := 0) (T := TX0) (N := 5) (As := [.int a0]) (rest := [.ref (ad 0)]) ⟨hx, hb, hml, hown, hts⟩ (ct_X0_outermost l dC dI (ad 2) (ad 6) (ca 6) 1 u.2.2.2.2.1 a0) (cwV 1 hts gX6_row_X0_outermost rfl rfl rfl (by decide +kernel) ⟨Nat.le_of_ble_eq_true rfl, Nat.le_of_ble_eq_true rfl⟩) (hw_part hP [2, 6] rfl) (hK.sub [2] rfl) hNW rfl rfl rfl hl.1 rfl (Nat.le_of_ble_eq_true rfl) dX6_row_13 ⟨Nat.le_of_ble_eq_true rfl, Nat.le_of_ble_eq_true rfl⟩ ?_
    refine hc_V (C := RX6) (ci := 2) (T := TX6) (N := 7) (As := [.long (mX0_outermost u.2.2.2.2.1 a0)]) (rest := []) ⟨hx, hb, hml, hown, hts⟩ (ct_X6_markAt l dC dI ad ca u (mX0_outermost u.2.2.2.2.1 a0) (by with_reducible assumption)) (cwV 1 hts gX6_row_X6_markAt rfl rfl rfl (by decide +kernel) ⟨Nat.le_of_ble_eq_true rfl, Nat.le_of_ble_eq_true rfl⟩) (hw_part hP [0, 1, 2, 3, 4, 5, 6, 7, 8, 9] rfl) (hK.sub [0, 1, 2, 3, 4, 5] rfl) hNW rfl rfl rfl hl.1 rfl (Nat.le_of_ble_eq_true rfl) dX6_row_16 ⟨Nat.le_of_ble_eq_true rfl, Nat.le_of_ble_eq_true rfl⟩ ?_
    refine lv_goto (tgt := 23) hx hb dX6_row_19 (by decide) ?_
    exact W.lret (v := (mX6_markAt u (mX0_outermost u.2.2.2.2.1 a0))) hx hb hr (fun t ht _ => ⟨by rw [mX6_row, if_neg c_1], ht⟩) (fun _ h => by cases h) dX6_row_23

def mX6_x (u : TS) (a0 : Int32) : Int64 := (if (mX6_isPoint a0) = 0 then (0 : Int64) else (u.2.2.2.1.2.2.2 a0.toNatClampNeg))
set_option maxHeartbeats 4000000 in
set_option maxRecDepth 100000 in
theorem ct_X6_x (l : Launch) (dC : Nat → ClassId) (dI : Nat → Nat → Nat) (ad : Nat → Nat) (ca : Nat → ClassId) (u : TS) (a0 : Int32) : Met l yX6_x wsX6_x { frames := 1, cells := 0, slots := 0, locals := 20 } (pR (dC, dI) vwCl [((ca 4), .long), ((ca 5), .long), ((ca 6), .long), ((ca 7), .int), ((ca 8), .long), ((ca 9), .long)] (WT ad ca u) [.ref (ad 0), .int a0]) (k2_QcV (.long (mX6_x u a0))) 0 0 (fun _ => False) := by
  refine Met.ofW (cc := cX6_x) (maxL := 2) (ret := (some .long)) (by decide) rfl ?_
  intro p e s m args below meth c s₁ B hml hv
  obtain ⟨rfl, hP, hK, hNW⟩ := hv
  have hx := B.exec
  have hb := B.bytes
  have hr := B.returns
  have hts := atoms_spec (ws := wsX6_x) B.pre
  have hown : s.vm.findClass RX6 = some m.cls := findClass_of_methodNamed B.named
  have hlocks := B.notSynchronized
  have hin0 : ∀ w ∈ wsX00, w ∈ wsX6_x := by decide +kernel
  have hin6 : ∀ w ∈ wsX60, w ∈ wsX6_x := by decide +kernel
  have hl := lv_entry ([.ref (ad 0), .int a0]) (n := 2) (Nat.le_of_ble_eq_true rfl)
  rw [lg_entry_eq]
  generalize (lg_sl ([.ref (ad 0), .int a0]) ++ List.replicate (2 - (lg_sl ([.ref (ad 0), .int a0])).length) Slot.unset).toArray = ls at hl ⊢
  have hl : lv_has ls 2 [(0, .ref (ad 0)), (1, .int a0)] := hl
  refine lv_iload_n hx hb dX6_x_0 rfl (lv_at hl 1 rfl) ?_
  refine hc_S (As := [.int a0]) (rest := []) ⟨hx, hb, hml, hown, hts⟩ (ct_X6_isPoint l a0) (va_cwS 1 hts gX6_x_X6_isPoint rfl rfl rfl (by decide +kernel) ⟨Nat.le_of_ble_eq_true rfl, Nat.le_of_ble_eq_true rfl⟩) rfl hl.1 rfl (Nat.le_of_ble_eq_true rfl) dX6_x_1 ⟨Nat.le_of_ble_eq_true rfl, Nat.le_of_ble_eq_true rfl⟩ ?_
  refine lv_if_eq (tgt := 19) hx hb dX6_x_4 (by decide) (fun c_1 => ?_) (fun c_1 => ?_)
  · refine lv_lconst (v := (0 : Int64)) hx hb dX6_x_19 (by decide) ?_
    exact W.lret (v := (0 : Int64)) hx hb hr (fun t ht _ => ⟨by rw [mX6_x, if_pos c_1], ht⟩) (fun _ h => by cases h) dX6_x_20
  · refine lv_aload_n hx hb dX6_x_7 rfl (lv_at hl 0 rfl) ?_
    refine va_get (D := (dC, dI)) (ci := 2) (v := .ref (ad 1)) (C := RX6) (T := TX6) (N := 7) hx hb hts hin6 hown hK hP 0 rfl rfl 0 (by decide) (hts (.fieldLink RX6 12 "SnapTable" "widths" "LSnapTable$Axis;") (by decide +kernel)) (fun _ h9 => h9) rfl dX6_x_8 ?_
    refine va_getN (D := (dC, dI)) (ci := 0) (v := .ref (ad 5)) (C := RX0) (T := TX0) (N := 5) hx hb hts hin0 hown hK hP 1 rfl rfl 1 (by decide) (va_Nw.use rfl hNW.1) (fun _ h9 => h9) rfl dX6_x_11 ?_
    refine lv_iload_n hx hb dX6_x_14 rfl (lv_at hl 1 rfl) ?_
    refine va_lald hx hb hK hP 5 1 rfl rfl (by first | with_reducible assumption | with_reducible exact pt_in (by with_reducible assumption) | with_reducible exact ptm_in (by with_reducible assumption) | exact LU.vin (B := 8) hm (by decide) (by with_reducible assumption) (by decide) | exact LU.vin (B := 4) hm (by decide) (by with_reducible assumption) (by decide) | exact LU.vin (B := 16) hm (by decide) (by with_reducible assumption) (by decide) | exact vp_in_nI (n := 0) (by decide) (by decide) | with_reducible exact gdm_in (by with_reducible assumption) (by with_reducible assumption) | with_reducible exact gd_in (by with_reducible assumption) (by with_reducible assumption)) dX6_x_15 ?_
    refine lv_goto (tgt := 20) hx hb dX6_x_16 (by decide) ?_
    exact W.lret (v := (u.2.2.2.1.2.2.2 a0.toNatClampNeg)) hx hb hr (fun t ht _ => ⟨by rw [mX6_x, if_neg c_1], ht⟩) (fun _ h => by cases h) dX6_x_20

def mX6_y (u : TS) (a0 : Int32) : Int32 := (if (mX6_isPoint a0) = 0 then (0 : Int32) else (mX3_narrowed (u.2.2.2.2.1.2.2.2 a0.toNatClampNeg)))
set_option maxHeartbeats 4000000 in
set_option maxRecDepth 100000 in
theorem ct_X6_y (l : Launch) (dC : Nat → ClassId) (dI : Nat → Nat → Nat) (ad : Nat → Nat) (ca : Nat → ClassId) (u : TS) (a0 : Int32) : Met l yX6_y wsX6_y { frames := 4, cells := 0, slots := 0, locals := 94 } (pR (dC, dI) vwCl [((ca 4), .long), ((ca 5), .long), ((ca 6), .long), ((ca 7), .int), ((ca 8), .long), ((ca 9), .long)] (WT ad ca u) [.ref (ad 0), .int a0]) (k2_QcV (.int (mX6_y u a0))) 0 0 (fun _ => False) := by
  refine Met.ofW (cc := cX6_y) (maxL := 2) (ret := (some .int)) (by decide) rfl ?_
  intro p e s m args below meth c s₁ B hml hv
  obtain ⟨rfl, hP, hK, hNW⟩ := hv
  have hx := B.exec
  have hb := B.bytes
  have hr := B.returns
  have hts := atoms_spec (ws := wsX6_y) B.pre
  have hown : s.vm.findClass RX6 = some m.cls := findClass_of_methodNamed B.named
  have hlocks := B.notSynchronized
  have hin0 : ∀ w ∈ wsX00, w ∈ wsX6_y := by decide +kernel
  have hin6 : ∀ w ∈ wsX60, w ∈ wsX6_y := by decide +kernel
  have hl := lv_entry ([.ref (ad 0), .int a0]) (n := 2) (Nat.le_of_ble_eq_true rfl)
  rw [lg_entry_eq]
  generalize (lg_sl ([.ref (ad 0), .int a0]) ++ List.replicate (2 - (lg_sl ([.ref (ad 0), .int a0])).length) Slot.unset).toArray = ls at hl ⊢
  have hl : lv_has ls 2 [(0, .ref (ad 0)), (1, .int a0)] := hl
  refine lv_iload_n hx hb dX6_y_0 rfl (lv_at hl 1 rfl) ?_
  refine hc_S (As := [.int a0]) (rest := []) ⟨hx, hb, hml, hown, hts⟩ (ct_X6_isPoint l a0) (va_cwS 1 hts gX6_y_X6_isPoint rfl rfl rfl (by decide +kernel) ⟨Nat.le_of_ble_eq_true rfl, Nat.le_of_ble_eq_true rfl⟩) rfl hl.1 rfl (Nat.le_of_ble_eq_true rfl) dX6_y_1 ⟨Nat.le_of_ble_eq_true rfl, Nat.le_of_ble_eq_true rfl⟩ ?_
  refine lv_if_eq (tgt := 22) hx hb dX6_y_4 (by decide) (fun c_1 => ?_) (fun c_1 => ?_)
  · refine lv_iconst (v := (0 : Int32)) hx hb dX6_y_22 (by decide) ?_
    exact W.iret (v := (0 : Int32)) hx hb hr (fun t ht _ => ⟨by rw [mX6_y, if_pos c_1], ht⟩) (fun _ h => by cases h) dX6_y_23
  · refine lv_aload_n hx hb dX6_y_7 rfl (lv_at hl 0 rfl) ?_
    refine va_get (D := (dC, dI)) (ci := 2) (v := .ref (ad 2)) (C := RX6) (T := TX6) (N := 7) hx hb hts hin6 hown hK hP 0 rfl rfl 1 (by decide) (hts (.fieldLink RX6 18 "SnapTable" "heights" "LSnapTable$Axis;") (by decide +kernel)) (fun _ h9 => h9) rfl dX6_y_8 ?_
    refine va_getN (D := (dC, dI)) (ci := 0) (v := .ref (ad 6)) (C := RX0) (T := TX0) (N := 5) hx hb hts hin0 hown hK hP 2 rfl rfl 1 (by decide) (va_Nw.use rfl hNW.1) (fun _ h9 => h9) rfl dX6_y_11 ?_
    refine lv_iload_n hx hb dX6_y_14 rfl (lv_at hl 1 rfl) ?_
    refine va_lald hx hb hK hP 6 2 rfl rfl (by first | with_reducible assumption | with_reducible exact pt_in (by with_reducible assumption) | with_reducible exact ptm_in (by with_reducible assumption) | exact LU.vin (B := 8) hm (by decide) (by with_reducible assumption) (by decide) | exact LU.vin (B := 4) hm (by decide) (by with_reducible assumption) (by decide) | exact LU.vin (B := 16) hm (by decide) (by with_reducible assumption) (by decide) | exact vp_in_nI (n := 0) (by decide) (by decide) | with_reducible exact gdm_in (by with_reducible assumption) (by with_reducible assumption) | with_reducible exact gd_in (by with_reducible assumption) (by with_reducible assumption)) dX6_y_15 ?_
    refine hc_S (As := [.long (u.2.2.2.2.1.2.2.2 a0.toNatClampNeg)]) (rest := []) ⟨hx, hb, hml, hown, hts⟩ (ct_X3_narrowed l (u.2.2.2.2.1.2.2.2 a0.toNatClampNeg)) (va_cwS 1 hts gX6_y_X3_narrowed rfl rfl rfl (by decide +kernel) ⟨Nat.le_of_ble_eq_true rfl, Nat.le_of_ble_eq_true rfl⟩) rfl hl.1 rfl (Nat.le_of_ble_eq_true rfl) dX6_y_16 ⟨Nat.le_of_ble_eq_true rfl, Nat.le_of_ble_eq_true rfl⟩ ?_
    refine lv_goto (tgt := 23) hx hb dX6_y_19 (by decide) ?_
    exact W.iret (v := (mX3_narrowed (u.2.2.2.2.1.2.2.2 a0.toNatClampNeg))) hx hb hr (fun t ht _ => ⟨by rw [mX6_y, if_neg c_1], ht⟩) (fun _ h => by cases h) dX6_y_23

def mX6_side (u : TS) (a0 : Int32) : Int64 := (if (mX6_isPoint a0) = 0 then (0 : Int64) else (mX1_unit (u.2.2.2.1.2.2.2 a0.toNatClampNeg)))
set_option maxHeartbeats 4000000 in
set_option maxRecDepth 100000 in
theorem ct_X6_side (l : Launch) (dC : Nat → ClassId) (dI : Nat → Nat → Nat) (ad : Nat → Nat) (ca : Nat → ClassId) (u : TS) (a0 : Int32) : Met l yX6_side wsX6_side { frames := 2, cells := 0, slots := 0, locals := 44 } (pR (dC, dI) vwCl [((ca 4), .long), ((ca 5), .long), ((ca 6), .long), ((ca 7), .int), ((ca 8), .long), ((ca 9), .long)] (WT ad ca u) [.ref (ad 0), .int a0]) (k2_QcV (.long (mX6_side u a0))) 0 0 (fun _ => False) := by
  refine Met.ofW (cc := cX6_side) (maxL := 2) (ret := (some .long)) (by decide) rfl ?_
  intro p e s m args below meth c s₁ B hml hv
  obtain ⟨rfl, hP, hK, hNW⟩ := hv
  have hx := B.exec
  have hb := B.bytes
  have hr := B.returns
  have hts := atoms_spec (ws := wsX6_side) B.pre
  have hown : s.vm.findClass RX6 = some m.cls := findClass_of_methodNamed B.named
  have hlocks := B.notSynchronized
  have hin0 : ∀ w ∈ wsX00, w ∈ wsX6_side := by decide +kernel
  have hin6 : ∀ w ∈ wsX60, w ∈ wsX6_side := by decide +kernel
  have hl := lv_entry ([.ref (ad 0), .int a0]) (n := 2) (Nat.le_of_ble_eq_true rfl)
  rw [lg_entry_eq]
  generalize (lg_sl ([.ref (ad 0), .int a0]) ++ List.replicate (2 - (lg_sl ([.ref (ad 0), .int a0])).length) Slot.unset).toArray = ls at hl ⊢
  have hl : lv_has ls 2 [(0, .ref (ad 0)), (1, .int a0)] := hl
  refine lv_iload_n hx hb dX6_side_0 rfl (lv_at hl 1 rfl) ?_
  refine hc_S (As := [.int a0]) (rest := []) ⟨hx, hb, hml, hown, hts⟩ (ct_X6_isPoint l a0) (va_cwS 1 hts gX6_side_X6_isPoint rfl rfl rfl (by decide +kernel) ⟨Nat.le_of_ble_eq_true rfl, Nat.le_of_ble_eq_true rfl⟩) rfl hl.1 rfl (Nat.le_of_ble_eq_true rfl) dX6_side_1 ⟨Nat.le_of_ble_eq_true rfl, Nat.le_of_ble_eq_true rfl⟩ ?_
  refine lv_if_eq (tgt := 22) hx hb dX6_side_4 (by decide) (fun c_1 => ?_) (fun c_1 => ?_)
  · refine lv_lconst (v := (0 : Int64)) hx hb dX6_side_22 (by decide) ?_
    exact W.lret (v := (0 : Int64)) hx hb hr (fun t ht _ => ⟨by rw [mX6_side, if_pos c_1], ht⟩) (fun _ h => by cases h) dX6_side_23
  · refine lv_aload_n hx hb dX6_side_7 rfl (lv_at hl 0 rfl) ?_
    refine va_get (D := (dC, dI)) (ci := 2) (v := .ref (ad 1)) (C := RX6) (T := TX6) (N := 7) hx hb hts hin6 hown hK hP 0 rfl rfl 0 (by decide) (hts (.fieldLink RX6 12 "SnapTable" "widths" "LSnapTable$Axis;") (by decide +kernel)) (fun _ h9 => h9) rfl dX6_side_8 ?_
    refine va_getN (D := (dC, dI)) (ci := 0) (v := .ref (ad 5)) (C := RX0) (T := TX0) (N := 5) hx hb hts hin0 hown hK hP 1 rfl rfl 1 (by decide) (va_Nw.use rfl hNW.1) (fun _ h9 => h9) rfl dX6_side_11 ?_
    refine lv_iload_n hx hb dX6_side_14 rfl (lv_at hl 1 rfl) ?_
    refine va_lald hx hb hK hP 5 1 rfl rfl (by first | with_reducible assumption | with_reducible exact pt_in (by with_reducible assumption) | with_reducible exact ptm_in (by with_reducible assumption) | exact LU.vin (B := 8) hm (by decide) (by with_reducible assumption) (by decide) | exact LU.vin (B := 4) hm (by decide) (by with_reducible assumption) (by decide) | exact LU.vin (B := 16) hm (by decide) (by with_reducible assumption) (by decide) | exact vp_in_nI (n := 0) (by decide) (by decide) | with_reducible exact gdm_in (by with_reducible assumption) (by with_reducible assumption) | with_reducible exact gd_in (by with_reducible assumption) (by with_reducible assumption)) dX6_side_15 ?_
    refine hc_S (As := [.long (u.2.2.2.1.2.2.2 a0.toNatClampNeg)]) (rest := []) ⟨hx, hb, hml, hown, hts⟩ (ct_X1_unit l (u.2.2.2.1.2.2.2 a0.toNatClampNeg)) (va_cwS 1 hts gX6_side_X1_unit rfl rfl rfl (by decide +kernel) ⟨Nat.le_of_ble_eq_true rfl, Nat.le_of_ble_eq_true rfl⟩) rfl hl.1 rfl (Nat.le_of_ble_eq_true rfl) dX6_side_16 ⟨Nat.le_of_ble_eq_true rfl, Nat.le_of_ble_eq_true rfl⟩ ?_
    refine lv_goto (tgt := 23) hx hb dX6_side_19 (by decide) ?_
    exact W.lret (v := (mX1_unit (u.2.2.2.1.2.2.2 a0.toNatClampNeg))) hx hb hr (fun t ht _ => ⟨by rw [mX6_side, if_neg c_1], ht⟩) (fun _ h => by cases h) dX6_side_23

def mX6_lift (u : TS) (a0 : Int32) : Int32 := (if (mX6_isPoint a0) = 0 then (0 : Int32) else (mX3_narrowed (mX1_unit (u.2.2.2.2.1.2.2.2 a0.toNatClampNeg))))
set_option maxHeartbeats 4000000 in
set_option maxRecDepth 100000 in
theorem ct_X6_lift (l : Launch) (dC : Nat → ClassId) (dI : Nat → Nat → Nat) (ad : Nat → Nat) (ca : Nat → ClassId) (u : TS) (a0 : Int32) : Met l yX6_lift wsX6_lift { frames := 4, cells := 0, slots := 0, locals := 94 } (pR (dC, dI) vwCl [((ca 4), .long), ((ca 5), .long), ((ca 6), .long), ((ca 7), .int), ((ca 8), .long), ((ca 9), .long)] (WT ad ca u) [.ref (ad 0), .int a0]) (k2_QcV (.int (mX6_lift u a0))) 0 0 (fun _ => False) := by
  refine Met.ofW (cc := cX6_lift) (maxL := 2) (ret := (some .int)) (by decide) rfl ?_
  intro p e s m args below meth c s₁ B hml hv
  obtain ⟨rfl, hP, hK, hNW⟩ := hv
  have hx := B.exec
  have hb := B.bytes
  have hr := B.returns
  have hts := atoms_spec (ws := wsX6_lift) B.pre
  have hown : s.vm.findClass RX6 = some m.cls := findClass_of_methodNamed B.named
  have hlocks := B.notSynchronized
  have hin0 : ∀ w ∈ wsX00, w ∈ wsX6_lift := by decide +kernel
  have hin6 : ∀ w ∈ wsX60, w ∈ wsX6_lift := by decide +kernel
  have hl := lv_entry ([.ref (ad 0), .int a0]) (n := 2) (Nat.le_of_ble_eq_true rfl)
  rw [lg_entry_eq]
  generalize (lg_sl ([.ref (ad 0), .int a0]) ++ List.replicate (2 - (lg_sl ([.ref (ad 0), .int a0])).length) Slot.unset).toArray = ls at hl ⊢
  have hl : lv_has ls 2 [(0, .ref (ad 0)), (1, .int a0)] := hl
  refine lv_iload_n hx hb dX6_lift_0 rfl (lv_at hl 1 rfl) ?_
  refine hc_S (As := [.int a0]) (rest := []) ⟨hx, hb, hml, hown, hts⟩ (ct_X6_isPoint l a0) (va_cwS 1 hts gX6_lift_X6_isPoint rfl rfl rfl (by decide +kernel) ⟨Nat.le_of_ble_eq_true rfl, Nat.le_of_ble_eq_true rfl⟩) rfl hl.1 rfl (Nat.le_of_ble_eq_true rfl) dX6_lift_1 ⟨Nat.le_of_ble_eq_true rfl, Nat.le_of_ble_eq_true rfl⟩ ?_
  refine lv_if_eq (tgt := 25) hx hb dX6_lift_4 (by decide) (fun c_1 => ?_) (fun c_1 => ?_)
  · refine lv_iconst (v := (0 : Int32)) hx hb dX6_lift_25 (by decide) ?_
    exact W.iret (v := (0 : Int32)) hx hb hr (fun t ht _ => ⟨by rw [mX6_lift, if_pos c_1], ht⟩) (fun _ h => by cases h) dX6_lift_26
  · refine lv_aload_n hx hb dX6_lift_7 rfl (lv_at hl 0 rfl) ?_
    refine va_get (D := (dC, dI)) (ci := 2) (v := .ref (ad 2)) (C := RX6) (T := TX6) (N := 7) hx hb hts hin6 hown hK hP 0 rfl rfl 1 (by decide) (hts (.fieldLink RX6 18 "SnapTable" "heights" "LSnapTable$Axis;") (by decide +kernel)) (fun _ h9 => h9) rfl dX6_lift_8 ?_
    refine va_getN (D := (dC, dI)) (ci := 0) (v := .ref (ad 6)) (C := RX0) (T := TX0) (N := 5) hx hb hts hin0 hown hK hP 2 rfl rfl 1 (by decide) (va_Nw.use rfl hNW.1) (fun _ h9 => h9) rfl dX6_lift_11 ?_
    refine lv_iload_n hx hb dX6_lift_14 rfl (lv_at hl 1 rfl) ?_
    refine va_lald hx hb hK hP 6 2 rfl rfl (by first | with_reducible assumption | with_reducible exact pt_in (by with_reducible assumption) | with_reducible exact ptm_in (by with_reducible assumption) | exact LU.vin (B := 8) hm (by decide) (by with_reducible assumption) (by decide) | exact LU.vin (B := 4) hm (by decide) (by with_reducible assumption) (by decide) | exact LU.vin (B := 16) hm (by decide) (by with_reducible assumption) (by decide) | exact vp_in_nI (n := 0) (by decide) (by decide) | with_reducible exact gdm_in (by with_reducible assumption) (by with_reducible assumption) | with_reducible exact gd_in (by with_reducible assumption) (by with_reducible assumption)) dX6_lift_15 ?_
    refine hc_S (As := [.long (u.2.2.2.2.1.2.2.2 a0.toNatClampNeg)]) (rest := []) ⟨hx, hb, hml, hown, hts⟩ (ct_X1_unit l (u.2.2.2.2.1.2.2.2 a0.toNatClampNeg)) (va_cwS 1 hts gX6_lift_X1_unit rfl rfl rfl (by decide +kernel) ⟨Nat.le_of_ble_eq_true rfl, Nat.le_of_ble_eq_true rfl⟩) rfl hl.1 rfl (Nat.le_of_ble_eq_true rfl) dX6_lift_16 ⟨Nat.le_of_ble_eq_true rfl, Nat.le_of_ble_eq_true rfl⟩ ?_
    refine hc_S (As := [.long (mX1_unit (u.2.2.2.2.1.2.2.2 a0.toNatClampNeg))]) (rest := []) ⟨hx, hb, hml, hown, hts⟩ (ct_X3_narrowed l (mX1_unit (u.2.2.2.2.1.2.2.2 a0.toNatClampNeg))) (va_cwS 1 hts gX6_lift_X3_narrowed rfl rfl rfl (by decide +kernel) ⟨Nat.le_of_ble_eq_true rfl, Nat.le_of_ble_eq_true rfl⟩) rfl hl.1 rfl (Nat.le_of_ble_eq_true rfl) dX6_lift_19 ⟨Nat.le_of_ble_eq_true rfl, Nat.le_of_ble_eq_true rfl⟩ ?_
    refine lv_goto (tgt := 26) hx hb dX6_lift_22 (by decide) ?_
    exact W.iret (v := (mX3_narrowed (mX1_unit (u.2.2.2.2.1.2.2.2 a0.toNatClampNeg)))) hx hb hr (fun t ht _ => ⟨by rw [mX6_lift, if_neg c_1], ht⟩) (fun _ h => by cases h) dX6_lift_26

def mX6_edge (u : TS) (a0 : Int32) : Int64 := (if (mX6_isEnd a0) = 0 then (0 : Int64) else (mX0_outermost u.2.2.2.1 a0))
set_option maxHeartbeats 4000000 in
set_option maxRecDepth 100000 in
theorem ct_X6_edge (l : Launch) (dC : Nat → ClassId) (dI : Nat → Nat → Nat) (ad : Nat → Nat) (ca : Nat → ClassId) (u : TS) (a0 : Int32) : Met l yX6_edge wsX6_edge { frames := 4, cells := 0, slots := 0, locals := 92 } (pR (dC, dI) vwCl [((ca 4), .long), ((ca 5), .long), ((ca 6), .long), ((ca 7), .int), ((ca 8), .long), ((ca 9), .long)] (WT ad ca u) [.ref (ad 0), .int a0]) (k2_QcV (.long (mX6_edge u a0))) 0 0 (fun _ => False) := by
  refine Met.ofW (cc := cX6_edge) (maxL := 2) (ret := (some .long)) (by decide) rfl ?_
  intro p e s m args below meth c s₁ B hml hv
  obtain ⟨rfl, hP, hK, hNW⟩ := hv
  have hx := B.exec
  have hb := B.bytes
  have hr := B.returns
  have hts := atoms_spec (ws := wsX6_edge) B.pre
  have hown : s.vm.findClass RX6 = some m.cls := findClass_of_methodNamed B.named
  have hlocks := B.notSynchronized
  have hin6 : ∀ w ∈ wsX60, w ∈ wsX6_edge := by decide +kernel
  have hl := lv_entry ([.ref (ad 0), .int a0]) (n := 2) (Nat.le_of_ble_eq_true rfl)
  rw [lg_entry_eq]
  generalize (lg_sl ([.ref (ad 0), .int a0]) ++ List.replicate (2 - (lg_sl ([.ref (ad 0), .int a0])).length) Slot.unset).toArray = ls at hl ⊢
  have hl : lv_has ls 2 [(0, .ref (ad 0)), (1, .int a0)] := hl
  refine lv_iload_n hx hb dX6_edge_0 rfl (lv_at hl 1 rfl) ?_
  refine hc_S (As := [.int a0]) (rest := []) ⟨hx, hb, hml, hown, hts⟩ (ct_X6_isEnd l a0) (va_cwS 1 hts gX6_edge_X6_isEnd rfl rfl rfl (by decide +kernel) ⟨Nat.le_of_ble_eq_true rfl, Nat.le_of_ble_eq_true rfl⟩) rfl hl.1 rfl (Nat.le_of_ble_eq_true rfl) dX6_edge_1 ⟨Nat.le_of_ble_eq_true rfl, Nat.le_of_ble_eq_true rfl⟩ ?_
  refine lv_if_eq (tgt := 18) hx hb dX6_edge_4 (by decide) (fun c_1 => ?_) (fun c_1 => ?_)
  · refine lv_lconst (v := (0 : Int64)) hx hb dX6_edge_18 (by decide) ?_
    exact W.lret (v := (0 : Int64)) hx hb hr (fun t ht _ => ⟨by rw [mX6_edge, if_pos c_1], ht⟩) (fun _ h => by cases h) dX6_edge_19
  · refine lv_aload_n hx hb dX6_edge_7 rfl (lv_at hl 0 rfl) ?_
    refine va_get (D := (dC, dI)) (ci := 2) (v := .ref (ad 1)) (C := RX6) (T := TX6) (N := 7) hx hb hts hin6 hown hK hP 0 rfl rfl 0 (by decide) (hts (.fieldLink RX6 12 "SnapTable" "widths" "LSnapTable$Axis;") (by decide +kernel)) (fun _ h9 => h9) rfl dX6_edge_8 ?_
    refine lv_iload_n hx hb dX6_edge_11 rfl (lv_at hl 1 rfl) ?_
    refine hc_V (C := RX0) (ci := 0) (T := TX0) (N := 5) (As := [.int a0]) (rest := []) ⟨hx, hb, hml, hown, hts⟩ (ct_X0_outermost l dC dI (ad 1) (ad 5) (ca 5) 0 u.2.2.2.1 a0) (cwV 1 hts gX6_edge_X0_outermost rfl rfl rfl (by decide +kernel) ⟨Nat.le_of_ble_eq_true rfl, Nat.le_of_ble_eq_true rfl⟩) (hw_part hP [1, 5] rfl) (hK.sub [1] rfl) hNW rfl rfl rfl hl.1 rfl (Nat.le_of_ble_eq_true rfl) dX6_edge_12 ⟨Nat.le_of_ble_eq_true rfl, Nat.le_of_ble_eq_true rfl⟩ ?_
    refine lv_goto (tgt := 19) hx hb dX6_edge_15 (by decide) ?_
    exact W.lret (v := (mX0_outermost u.2.2.2.1 a0)) hx hb hr (fun t ht _ => ⟨by rw [mX6_edge, if_neg c_1], ht⟩) (fun _ h => by cases h) dX6_edge_19

def mX6_rim (u : TS) (a0 : Int32) : Int32 := (if (mX6_isEnd a0) = 0 then (0 : Int32) else (mX3_narrowed (mX0_outermost u.2.2.2.2.1 a0)))
set_option maxHeartbeats 4000000 in
set_option maxRecDepth 100000 in
theorem ct_X6_rim (l : Launch) (dC : Nat → ClassId) (dI : Nat → Nat → Nat) (ad : Nat → Nat) (ca : Nat → ClassId) (u : TS) (a0 : Int32) : Met l yX6_rim wsX6_rim { frames := 4, cells := 0, slots := 0, locals := 94 } (pR (dC, dI) vwCl [((ca 4), .long), ((ca 5), .long), ((ca 6), .long), ((ca 7), .int), ((ca 8), .long), ((ca 9), .long)] (WT ad ca u) [.ref (ad 0), .int a0]) (k2_QcV (.int (mX6_rim u a0))) 0 0 (fun _ => False) := by
  refine Met.ofW (cc := cX6_rim) (maxL := 2) (ret := (some .int)) (by decide) rfl ?_
  intro p e s m args below meth c s₁ B hml hv
  obtain ⟨rfl, hP, hK, hNW⟩ := hv
  have hx := B.exec
  have hb := B.bytes
  have hr := B.returns
  have hts := atoms_spec (ws := wsX6_rim) B.pre
  have hown : s.vm.findClass RX6 = some m.cls := findClass_of_methodNamed B.named
  have hlocks := B.notSynchronized
  have hin6 : ∀ w ∈ wsX60, w ∈ wsX6_rim := by decide +kernel
  have hl := lv_entry ([.ref (ad 0), .int a0]) (n := 2) (Nat.le_of_ble_eq_true rfl)
  rw [lg_entry_eq]
  generalize (lg_sl ([.ref (ad 0), .int a0]) ++ List.replicate (2 - (lg_sl ([.ref (ad 0), .int a0])).length) Slot.unset).toArray = ls at hl ⊢
  have hl : lv_has ls 2 [(0, .ref (ad 0)), (1, .int a0)] := hl
  refine lv_iload_n hx hb dX6_rim_0 rfl (lv_at hl 1 rfl) ?_
  refine hc_S (As := [.int a0]) (rest := []) ⟨hx, hb, hml, hown, hts⟩ (ct_X6_isEnd l a0) (va_cwS 1 hts gX6_rim_X6_isEnd rfl rfl rfl (by decide +kernel) ⟨Nat.le_of_ble_eq_true rfl, Nat.le_of_ble_eq_true rfl⟩) rfl hl.1 rfl (Nat.le_of_ble_eq_true rfl) dX6_rim_1 ⟨Nat.le_of_ble_eq_true rfl, Nat.le_of_ble_eq_true rfl⟩ ?_
  refine lv_if_eq (tgt := 21) hx hb dX6_rim_4 (by decide) (fun c_1 => ?_) (fun c_1 => ?_)
  · refine lv_iconst (v := (0 : Int32)) hx hb dX6_rim_21 (by decide) ?_
    exact W.iret (v := (0 : Int32)) hx hb hr (fun t ht _ => ⟨by rw [mX6_rim, if_pos c_1], ht⟩) (fun _ h => by cases h) dX6_rim_22
  · refine lv_aload_n hx hb dX6_rim_7 rfl (lv_at hl 0 rfl) ?_
    refine va_get (D := (dC, dI)) (ci := 2) (v := .ref (ad 2)) (C := RX6) (T := TX6) (N := 7) hx hb hts hin6 hown hK hP 0 rfl rfl 1 (by decide) (hts (.fieldLink RX6 18 "SnapTable" "heights" "LSnapTable$Axis;") (by decide +kernel)) (fun _ h9 => h9) rfl dX6_rim_8 ?_
    refine lv_iload_n hx hb dX6_rim_11 rfl (lv_at hl 1 rfl) ?_
    refine hc_V (C := RX0) (ci := 0) (T := TX0) (N := 5) (As := [.int a0]) (rest := []) ⟨hx, hb, hml, hown, hts⟩ (ct_X0_outermost l dC dI (ad 2) (ad 6) (ca 6) 1 u.2.2.2.2.1 a0) (cwV 1 hts gX6_rim_X0_outermost rfl rfl rfl (by decide +kernel) ⟨Nat.le_of_ble_eq_true rfl, Nat.le_of_ble_eq_true rfl⟩) (hw_part hP [2, 6] rfl) (hK.sub [2] rfl) hNW rfl rfl rfl hl.1 rfl (Nat.le_of_ble_eq_true rfl) dX6_rim_12 ⟨Nat.le_of_ble_eq_true rfl, Nat.le_of_ble_eq_true rfl⟩ ?_
    refine hc_S (As := [.long (mX0_outermost u.2.2.2.2.1 a0)]) (rest := []) ⟨hx, hb, hml, hown, hts⟩ (ct_X3_narrowed l (mX0_outermost u.2.2.2.2.1 a0)) (va_cwS 1 hts gX6_rim_X3_narrowed rfl rfl rfl (by decide +kernel) ⟨Nat.le_of_ble_eq_true rfl, Nat.le_of_ble_eq_true rfl⟩) rfl hl.1 rfl (Nat.le_of_ble_eq_true rfl) dX6_rim_15 ⟨Nat.le_of_ble_eq_true rfl, Nat.le_of_ble_eq_true rfl⟩ ?_
    refine lv_goto (tgt := 22) hx hb dX6_rim_18 (by decide) ?_
    exact W.iret (v := (mX3_narrowed (mX0_outermost u.2.2.2.2.1 a0))) hx hb hr (fun t ht _ => ⟨by rw [mX6_rim, if_neg c_1], ht⟩) (fun _ h => by cases h) dX6_rim_22

def mX6_count (u : TS) (a0 : Int32) : Int32 := (if a0 = (0 : Int32) then u.1 else (if a0 = (1 : Int32) then u.2.1 else (if a0 = (2 : Int32) then u.2.2.1 else (if a0 = (3 : Int32) then u.2.2.2.2.2.1.2.1 else (-1 : Int32)))))
set_option maxHeartbeats 4000000 in
set_option maxRecDepth 100000 in
theorem ct_X6_count (l : Launch) (dC : Nat → ClassId) (dI : Nat → Nat → Nat) (ad : Nat → Nat) (ca : Nat → ClassId) (u : TS) (a0 : Int32) : Met l yX6_count wsX6_count { frames := 0, cells := 0, slots := 0, locals := 0 } (pR (dC, dI) vwCl [((ca 4), .long), ((ca 5), .long), ((ca 6), .long), ((ca 7), .int), ((ca 8), .long), ((ca 9), .long)] (WT ad ca u) [.ref (ad 0), .int a0]) (k2_QcV (.int (mX6_count u a0))) 0 0 (fun _ => False) := by
  refine Met.ofW (cc := cX6_count) (maxL := 2) (ret := (some .int)) (by decide) rfl ?_
  intro p e s m args below meth c s₁ B hml hv
  obtain ⟨rfl, hP, hK, hNW⟩ := hv
  have hx := B.exec
  have hb := B.bytes
  have hr := B.returns
  have hts := atoms_spec (ws := wsX6_count) B.pre
  have hown : s.vm.findClass RX6 = some m.cls := findClass_of_methodNamed B.named
  have hlocks := B.notSynchronized
  have hin4 : ∀ w ∈ wsX40, w ∈ wsX6_count := by decide +kernel
  have hin6 : ∀ w ∈ wsX60, w ∈ wsX6_count := by decide +kernel
  have hl := lv_entry ([.ref (ad 0), .int a0]) (n := 2) (Nat.le_of_ble_eq_true rfl)
  rw [lg_entry_eq]
  generalize (lg_sl ([.ref (ad 0), .int a0]) ++ List.replicate (2 - (lg_sl ([.ref (ad 0), .int a0])).length) Slot.unset).toArray = ls at hl ⊢
  have hl : lv_has ls 2 [(0, .ref (ad 0)), (1, .int a0)] := hl
  refine lv_iload_n hx hb dX6_count_0 rfl (lv_at hl 1 rfl) ?_
  by_cases c_1 : a0 = (0 : Int32)
  · refine lv_tableIn (off := 31) (tgt := 32) hx hb dX6_count_1 (by rw [c_1]; decide) (by rw [c_1]; decide) (by rw [c_1]; rfl) (by decide) ?_
    refine lv_aload_n hx hb dX6_count_32 rfl (lv_at hl 0 rfl) ?_
    refine va_get (D := (dC, dI)) (ci := 2) (v := .int u.1) (C := RX6) (T := TX6) (N := 7) hx hb hts hin6 hown hK hP 0 rfl rfl 4 (by decide) (hts (.fieldLink RX6 166 "SnapTable" "done" "I") (by decide +kernel)) (fun _ h9 => h9) rfl dX6_count_33 ?_
    exact W.iret (v := u.1) hx hb hr (fun t ht _ => ⟨by rw [mX6_count, if_pos c_1], ht⟩) (fun _ h => by cases h) dX6_count_36
  by_cases c_2 : a0 = (1 : Int32)
  · refine lv_tableIn (off := 36) (tgt := 37) hx hb dX6_count_1 (by rw [c_2]; decide) (by rw [c_2]; decide) (by rw [c_2]; rfl) (by decide) ?_
    refine lv_aload_n hx hb dX6_count_37 rfl (lv_at hl 0 rfl) ?_
    refine va_get (D := (dC, dI)) (ci := 2) (v := .int u.2.1) (C := RX6) (T := TX6) (N := 7) hx hb hts hin6 hown hK hP 0 rfl rfl 5 (by decide) (hts (.fieldLink RX6 169 "SnapTable" "refused" "I") (by decide +kernel)) (fun _ h9 => h9) rfl dX6_count_38 ?_
    exact W.iret (v := u.2.1) hx hb hr (fun t ht _ => ⟨by rw [mX6_count, if_neg c_1, if_pos c_2], ht⟩) (fun _ h => by cases h) dX6_count_41
  by_cases c_3 : a0 = (2 : Int32)
  · refine lv_tableIn (off := 41) (tgt := 42) hx hb dX6_count_1 (by rw [c_3]; decide) (by rw [c_3]; decide) (by rw [c_3]; rfl) (by decide) ?_
    refine lv_aload_n hx hb dX6_count_42 rfl (lv_at hl 0 rfl) ?_
    refine va_get (D := (dC, dI)) (ci := 2) (v := .int u.2.2.1) (C := RX6) (T := TX6) (N := 7) hx hb hts hin6 hown hK hP 0 rfl rfl 6 (by decide) (hts (.fieldLink RX6 172 "SnapTable" "met" "I") (by decide +kernel)) (fun _ h9 => h9) rfl dX6_count_43 ?_
    exact W.iret (v := u.2.2.1) hx hb hr (fun t ht _ => ⟨by rw [mX6_count, if_neg c_1, if_neg c_2, if_pos c_3], ht⟩) (fun _ h => by cases h) dX6_count_46
  by_cases c_4 : a0 = (3 : Int32)
  · refine lv_tableIn (off := 46) (tgt := 47) hx hb dX6_count_1 (by rw [c_4]; decide) (by rw [c_4]; decide) (by rw [c_4]; rfl) (by decide) ?_
    refine lv_aload_n hx hb dX6_count_47 rfl (lv_at hl 0 rfl) ?_
    refine va_get (D := (dC, dI)) (ci := 2) (v := .ref (ad 3)) (C := RX6) (T := TX6) (N := 7) hx hb hts hin6 hown hK hP 0 rfl rfl 2 (by decide) (hts (.fieldLink RX6 24 "SnapTable" "trail" "LSnapTable$Trail;") (by decide +kernel)) (fun _ h9 => h9) rfl dX6_count_48 ?_
    refine va_getN (D := (dC, dI)) (ci := 1) (v := .int u.2.2.2.2.2.1.2.1) (C := RX4) (T := TX4) (N := 5) hx hb hts hin4 hown hK hP 3 rfl rfl 4 (by decide) (va_Nw.use rfl hNW.2.2.2.2.2.1) (fun _ h9 => h9) rfl dX6_count_51 ?_
    exact W.iret (v := u.2.2.2.2.2.1.2.1) hx hb hr (fun t ht _ => ⟨by rw [mX6_count, if_neg c_1, if_neg c_2, if_neg c_3, if_pos c_4], ht⟩) (fun _ h => by cases h) dX6_count_54
  refine lv_tableOut (tgt := 55) hx hb dX6_count_1 (by have h_1 := lv_neT c_1 (a := 0) (by decide); have h_2 := lv_neT c_2 (a := 1) (by decide); have h_3 := lv_neT c_3 (a := 2) (by decide); have h_4 := lv_neT c_4 (a := 3) (by decide); omega) (by decide) ?_
  refine lv_iconst (v := (-1 : Int32)) hx hb dX6_count_55 (by decide) ?_
  exact W.iret (v := (-1 : Int32)) hx hb hr (fun t ht _ => ⟨by rw [mX6_count, if_neg c_1, if_neg c_2, if_neg c_3, if_neg c_4], ht⟩) (fun _ h => by cases h) dX6_count_56
