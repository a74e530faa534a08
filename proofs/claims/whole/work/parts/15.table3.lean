def mX6_move (u : TS) (a0 : Int32) (a1 : Int64) (a2 : Int32) : Int32 × TS := (if (mX6_isPoint a0) = 0 then ((mX6_refuse u (1 : Int32)).1, (mX6_refuse u (1 : Int32)).2) else (if (mX1_isNone a1) = 0 then (if (mX1_isNone (mX3_widened a2)) = 0 then ((mX6_putWalled u a0 (mX0_sum_w u.2.2.2.1 (u.2.2.2.1.2.2.2 a0.toNatClampNeg) a1) (mX0_sum_h u.2.2.2.2.1 (u.2.2.2.2.1.2.2.2 a0.toNatClampNeg) (mX3_widened a2))).1, (mX6_putWalled u a0 (mX0_sum_w u.2.2.2.1 (u.2.2.2.1.2.2.2 a0.toNatClampNeg) a1) (mX0_sum_h u.2.2.2.2.1 (u.2.2.2.2.1.2.2.2 a0.toNatClampNeg) (mX3_widened a2))).2) else ((mX6_refuse u (2 : Int32)).1, (mX6_refuse u (2 : Int32)).2)) else ((mX6_refuse u (2 : Int32)).1, (mX6_refuse u (2 : Int32)).2)))
set_option maxHeartbeats 4000000 in
set_option maxRecDepth 100000 in
theorem ct_X6_move (l : Launch) (dC : Nat → ClassId) (dI : Nat → Nat → Nat) (ad : Nat → Nat) (ca : Nat → ClassId) (sz : Nat) (u : TS) (a0 : Int32) (a1 : Int64) (a2 : Int32) (hn : vp_in u.2.2.2.2.2.1.1 16) (hdW : vp_in a0 8 → mX1_isNone a1 = 0 → FP.dIsNaN (FP.dadd (mX1_value (u.2.2.2.1.2.2.2 a0.toNatClampNeg)) (mX1_value a1)) = false) (hdH : vp_in a0 8 → mX1_isNone (mX3_widened a2) = 0 → FP.fIsNaN (FP.fadd (FP.d2f (mX1_value (u.2.2.2.2.1.2.2.2 a0.toNatClampNeg))) (FP.d2f (mX1_value (mX3_widened a2)))) = false) : Met l yX6_move wsX6_move { frames := 5, cells := 0, slots := 0, locals := 123 } (pM (dC, dI) vwCl [((ca 4), .long), ((ca 5), .long), ((ca 6), .long), ((ca 7), .int), ((ca 8), .long), ((ca 9), .long)] (WT ad ca u) sz [.ref (ad 0), .int a0, .long a1, .int a2]) (qM (dC, dI) vwCl (WT ad ca u) sz (some (.int (mX6_move u a0 a1 a2).1)) (WT ad ca (mX6_move u a0 a1 a2).2)) 0 0 (va_A (WT ad ca u) sz) := by
  refine Met.ofW (cc := cX6_move) (maxL := 7) (ret := (some .int)) (by decide) rfl ?_
  intro p e s m args below meth c s₁ B hml hv
  obtain ⟨rfl, hsz, hP, hK, hD0, hNW⟩ := hv
  subst hsz
  have hx := B.exec
  have hb := B.bytes
  have hr := B.returns
  have hts := atoms_spec (ws := wsX6_move) B.pre
  have hown : s.vm.findClass RX6 = some m.cls := findClass_of_methodNamed B.named
  have hlocks := B.notSynchronized
  have hin0 : ∀ w ∈ wsX00, w ∈ wsX6_move := by decide +kernel
  have hin6 : ∀ w ∈ wsX60, w ∈ wsX6_move := by decide +kernel
  have hD : va_D (va_A (WT ad ca u) s.heap.size) (WT ad ca u) := hD0.self
  have hA : ∀ q : Nat, s.heap.size ≤ q → va_A (WT ad ca u) s.heap.size q := fun q h => Or.inr h
  have hS : va_S (va_A (WT ad ca u) s.heap.size) s.heap s.heap [] := va_S.rf
  have hl := lv_entry ([.ref (ad 0), .int a0, .long a1, .int a2]) (n := 7) (Nat.le_of_ble_eq_true rfl)
  rw [lg_entry_eq]
  generalize (lg_sl ([.ref (ad 0), .int a0, .long a1, .int a2]) ++ List.replicate (7 - (lg_sl ([.ref (ad 0), .int a0, .long a1, .int a2])).length) Slot.unset).toArray = ls at hl ⊢
  have hl : lv_has ls 7 [(0, .ref (ad 0)), (1, .int a0), (2, .long a1), (4, .int a2)] := hl
  refine lv_iload hx hb dX6_move_0 (lv_at hl 3 rfl) ?_
  refine hc_S (As := [.int a2]) (rest := []) ⟨hx, hb, hml, hown, hts⟩ (ct_X3_widened l a2) (va_cwS 1 hts gX6_move_X3_widened rfl rfl rfl (by decide +kernel) ⟨Nat.le_of_ble_eq_true rfl, Nat.le_of_ble_eq_true rfl⟩) rfl hl.1 rfl (Nat.le_of_ble_eq_true rfl) dX6_move_2 ⟨Nat.le_of_ble_eq_true rfl, Nat.le_of_ble_eq_true rfl⟩ ?_
  refine lv_lstore (lv' := [(5, .long (mX3_widened a2)), (0, .ref (ad 0)), (1, .int a0), (2, .long a1), (4, .int a2)]) hx hb dX6_move_5 hl (by decide) rfl (fun ls hl => ?_)
  refine lv_iload_n hx hb dX6_move_7 rfl (lv_at hl 2 rfl) ?_
  refine hc_S (As := [.int a0]) (rest := []) ⟨hx, hb, hml, hown, hts⟩ (ct_X6_isPoint l a0) (va_cwS 1 hts gX6_move_X6_isPoint rfl rfl rfl (by decide +kernel) ⟨Nat.le_of_ble_eq_true rfl, Nat.le_of_ble_eq_true rfl⟩) rfl hl.1 rfl (Nat.le_of_ble_eq_true rfl) dX6_move_8 ⟨Nat.le_of_ble_eq_true rfl, Nat.le_of_ble_eq_true rfl⟩ ?_
  refine lv_if_ne (tgt := 20) hx hb dX6_move_11 (by decide) (fun c_1 => ?_) (fun c_1 => ?_)
  · refine lv_lload_n hx hb dX6_move_20 rfl (lv_at hl 3 rfl) ?_
    refine hc_S (As := [.long a1]) (rest := []) ⟨hx, hb, hml, hown, hts⟩ (ct_X1_isNone l a1) (va_cwS 1 hts gX6_move_X1_isNone rfl rfl rfl (by decide +kernel) ⟨Nat.le_of_ble_eq_true rfl, Nat.le_of_ble_eq_true rfl⟩) rfl hl.1 rfl (Nat.le_of_ble_eq_true rfl) dX6_move_21 ⟨Nat.le_of_ble_eq_true rfl, Nat.le_of_ble_eq_true rfl⟩ ?_
    refine lv_if_ne (tgt := 35) hx hb dX6_move_24 (by decide) (fun c_2 => ?_) (fun c_2 => ?_)
    · refine lv_aload_n hx hb dX6_move_35 rfl (lv_at hl 1 rfl) ?_
      refine lv_iconst (v := (2 : Int32)) hx hb dX6_move_36 (by decide) ?_
      refine hc_M (C := RX6) (ci := 2) (T := TX6) (N := 7) (As := [.int (2 : Int32)]) (rest := []) ⟨hx, hb, hml, hown, hts⟩ (ct_X6_refuse l dC dI ad ca _ u (2 : Int32)) (cwV 1 hts gX6_move_X6_refuse rfl rfl rfl (by decide +kernel) ⟨Nat.le_of_ble_eq_true rfl, Nat.le_of_ble_eq_true rfl⟩) hP hD (hK.sub [0, 1, 2, 3, 4, 5] rfl) hNW hS hA [0, 1, 2, 3, 4, 5, 6, 7, 8, 9] [] rfl (wr := []) rfl (by decide) (by decide) (by decide) rfl rfl rfl hl.1 rfl (Nat.le_of_ble_eq_true rfl) dX6_move_37 ⟨Nat.le_of_ble_eq_true rfl, Nat.le_of_ble_eq_true rfl⟩ (fun H locs hP hD hS => ?_)
      generalize hz_3 : mX6_refuse u (2 : Int32) = z_3 at hP hD ⊢
      have hP : va_P (dC, dI) vwCl (WT ad ca z_3.2) H := hP.sub [0, 1, 2, 3, 4, 5, 6, 7, 8, 9] rfl
      have hD : va_D (va_A (WT ad ca u) s.heap.size) (WT ad ca z_3.2) := hD.sub [0, 1, 2, 3, 4, 5, 6, 7, 8, 9] (by decide) rfl
      refine W.eq (g2 := F0 m 40 ls (.int z_3.1 :: [])) rfl ?_
      have he : mX6_move u a0 a1 a2 = (z_3.1, z_3.2) := by rw [mX6_move, if_neg c_1, if_neg c_2, hz_3]
      exact rM_i hx hb hr hlocks hP hD hS (by rw [he]) (by rw [he]) dX6_move_40
    · refine lv_lload hx hb dX6_move_27 (lv_at hl 0 rfl) ?_
      refine hc_S (As := [.long (mX3_widened a2)]) (rest := []) ⟨hx, hb, hml, hown, hts⟩ (ct_X1_isNone l (mX3_widened a2)) (va_cwS 1 hts gX6_move_X1_isNone rfl rfl rfl (by decide +kernel) ⟨Nat.le_of_ble_eq_true rfl, Nat.le_of_ble_eq_true rfl⟩) rfl hl.1 rfl (Nat.le_of_ble_eq_true rfl) dX6_move_29 ⟨Nat.le_of_ble_eq_true rfl, Nat.le_of_ble_eq_true rfl⟩ ?_
      refine lv_if_eq (tgt := 41) hx hb dX6_move_32 (by decide) (fun c_4 => ?_) (fun c_4 => ?_)
      · refine lv_aload_n hx hb dX6_move_41 rfl (lv_at hl 1 rfl) ?_
        refine lv_iload_n hx hb dX6_move_42 rfl (lv_at hl 2 rfl) ?_
        refine lv_aload_n hx hb dX6_move_43 rfl (lv_at hl 1 rfl) ?_
        refine va_get (D := (dC, dI)) (ci := 2) (v := .ref (ad 1)) (C := RX6) (T := TX6) (N := 7) hx hb hts hin6 hown hK hP 0 rfl rfl 0 (by decide) (hts (.fieldLink RX6 12 "SnapTable" "widths" "LSnapTable$Axis;") (by decide +kernel)) (fun _ h9 => h9) rfl dX6_move_44 ?_
        refine lv_aload_n hx hb dX6_move_47 rfl (lv_at hl 1 rfl) ?_
        refine va_get (D := (dC, dI)) (ci := 2) (v := .ref (ad 1)) (C := RX6) (T := TX6) (N := 7) hx hb hts hin6 hown hK hP 0 rfl rfl 0 (by decide) (hts (.fieldLink RX6 12 "SnapTable" "widths" "LSnapTable$Axis;") (by decide +kernel)) (fun _ h9 => h9) rfl dX6_move_48 ?_
        refine va_getN (D := (dC, dI)) (ci := 0) (v := .ref (ad 5)) (C := RX0) (T := TX0) (N := 5) hx hb hts hin0 hown hK hP 1 rfl rfl 1 (by decide) (va_Nw.use rfl hNW.1) (fun _ h9 => h9) rfl dX6_move_51 ?_
        refine lv_iload_n hx hb dX6_move_54 rfl (lv_at hl 2 rfl) ?_
        refine va_lald hx hb hK hP 5 1 rfl rfl (by first | with_reducible assumption | with_reducible exact pt_in (by with_reducible assumption) | with_reducible exact ptm_in (by with_reducible assumption) | exact LU.vin (B := 8) hm (by decide) (by with_reducible assumption) (by decide) | exact LU.vin (B := 4) hm (by decide) (by with_reducible assumption) (by decide) | exact LU.vin (B := 16) hm (by decide) (by with_reducible assumption) (by decide) | exact vp_in_nI (n := 0) (by decide) (by decide) | with_reducible exact gdm_in (by with_reducible assumption) (by with_reducible assumption) | with_reducible exact gd_in (by with_reducible assumption) (by with_reducible assumption)) dX6_move_55 ?_
        refine lv_lload_n hx hb dX6_move_56 rfl (lv_at hl 3 rfl) ?_
        refine hc_V (C := RX0) (ci := 0) (T := TX0) (N := 5) (As := [.long (u.2.2.2.1.2.2.2 a0.toNatClampNeg), .long a1]) (rest := [.int a0, .ref (ad 0)]) ⟨hx, hb, hml, hown, hts⟩ (ct_X0_sum_w l dC dI (ad 1) (ad 5) (ca 5) u.2.2.2.1 (u.2.2.2.1.2.2.2 a0.toNatClampNeg) a1 (by first | with_reducible assumption | with_reducible exact pt_in (by with_reducible assumption) | with_reducible exact hdW (pt_in (by with_reducible assumption)) (by with_reducible assumption) | with_reducible exact hdH (pt_in (by with_reducible assumption)) (by with_reducible assumption))) (cwV 2 hts gX6_move_X0_sum rfl rfl rfl (by decide +kernel) ⟨Nat.le_of_ble_eq_true rfl, Nat.le_of_ble_eq_true rfl⟩) (hw_part hP [1, 5] rfl) (hK.sub [1] rfl) hNW rfl rfl rfl hl.1 rfl (Nat.le_of_ble_eq_true rfl) dX6_move_57 ⟨Nat.le_of_ble_eq_true rfl, Nat.le_of_ble_eq_true rfl⟩ ?_
        refine lv_aload_n hx hb dX6_move_60 rfl (lv_at hl 1 rfl) ?_
        refine va_get (D := (dC, dI)) (ci := 2) (v := .ref (ad 2)) (C := RX6) (T := TX6) (N := 7) hx hb hts hin6 hown hK hP 0 rfl rfl 1 (by decide) (hts (.fieldLink RX6 18 "SnapTable" "heights" "LSnapTable$Axis;") (by decide +kernel)) (fun _ h9 => h9) rfl dX6_move_61 ?_
        refine lv_aload_n hx hb dX6_move_64 rfl (lv_at hl 1 rfl) ?_
        refine va_get (D := (dC, dI)) (ci := 2) (v := .ref (ad 2)) (C := RX6) (T := TX6) (N := 7) hx hb hts hin6 hown hK hP 0 rfl rfl 1 (by decide) (hts (.fieldLink RX6 18 "SnapTable" "heights" "LSnapTable$Axis;") (by decide +kernel)) (fun _ h9 => h9) rfl dX6_move_65 ?_
        refine va_getN (D := (dC, dI)) (ci := 0) (v := .ref (ad 6)) (C := RX0) (T := TX0) (N := 5) hx hb hts hin0 hown hK hP 2 rfl rfl 1 (by decide) (va_Nw.use rfl hNW.1) (fun _ h9 => h9) rfl dX6_move_68 ?_
        refine lv_iload_n hx hb dX6_move_71 rfl (lv_at hl 2 rfl) ?_
        refine va_lald hx hb hK hP 6 2 rfl rfl (by first | with_reducible assumption | with_reducible exact pt_in (by with_reducible assumption) | with_reducible exact ptm_in (by with_reducible assumption) | exact LU.vin (B := 8) hm (by decide) (by with_reducible assumption) (by decide) | exact LU.vin (B := 4) hm (by decide) (by with_reducible assumption) (by decide) | exact LU.vin (B := 16) hm (by decide) (by with_reducible assumption) (by decide) | exact vp_in_nI (n := 0) (by decide) (by decide) | with_reducible exact gdm_in (by with_reducible assumption) (by with_reducible assumption) | with_reducible exact gd_in (by with_reducible assumption) (by with_reducible assumption)) dX6_move_72 ?_
        refine lv_lload hx hb dX6_move_73 (lv_at hl 0 rfl) ?_
        refine hc_V (C := RX0) (ci := 0) (T := TX0) (N := 5) (As := [.long (u.2.2.2.2.1.2.2.2 a0.toNatClampNeg), .long (mX3_widened a2)]) (rest := [.long (mX0_sum_w u.2.2.2.1 (u.2.2.2.1.2.2.2 a0.toNatClampNeg) a1), .int a0, .ref (ad 0)]) ⟨hx, hb, hml, hown, hts⟩ (ct_X0_sum_h l dC dI (ad 2) (ad 6) (ca 6) u.2.2.2.2.1 (u.2.2.2.2.1.2.2.2 a0.toNatClampNeg) (mX3_widened a2) (by first | with_reducible assumption | with_reducible exact pt_in (by with_reducible assumption) | with_reducible exact hdW (pt_in (by with_reducible assumption)) (by with_reducible assumption) | with_reducible exact hdH (pt_in (by with_reducible assumption)) (by with_reducible assumption))) (cwV 2 hts gX6_move_X0_sum rfl rfl rfl (by decide +kernel) ⟨Nat.le_of_ble_eq_true rfl, Nat.le_of_ble_eq_true rfl⟩) (hw_part hP [2, 6] rfl) (hK.sub [2] rfl) hNW rfl rfl rfl hl.1 rfl (Nat.le_of_ble_eq_true rfl) dX6_move_75 ⟨Nat.le_of_ble_eq_true rfl, Nat.le_of_ble_eq_true rfl⟩ ?_
        refine hc_M (C := RX6) (ci := 2) (T := TX6) (N := 7) (As := [.int a0, .long (mX0_sum_w u.2.2.2.1 (u.2.2.2.1.2.2.2 a0.toNatClampNeg) a1), .long (mX0_sum_h u.2.2.2.2.1 (u.2.2.2.2.1.2.2.2 a0.toNatClampNeg) (mX3_widened a2))]) (rest := []) ⟨hx, hb, hml, hown, hts⟩ (ct_X6_putWalled l dC dI ad ca _ u a0 (mX0_sum_w u.2.2.2.1 (u.2.2.2.1.2.2.2 a0.toNatClampNeg) a1) (mX0_sum_h u.2.2.2.2.1 (u.2.2.2.2.1.2.2.2 a0.toNatClampNeg) (mX3_widened a2)) (by first | with_reducible assumption | with_reducible exact pt_in (by with_reducible assumption) | with_reducible exact hdW (pt_in (by with_reducible assumption)) (by with_reducible assumption) | with_reducible exact hdH (pt_in (by with_reducible assumption)) (by with_reducible assumption)) (by first | with_reducible assumption | with_reducible exact pt_in (by with_reducible assumption) | with_reducible exact hdW (pt_in (by with_reducible assumption)) (by with_reducible assumption) | with_reducible exact hdH (pt_in (by with_reducible assumption)) (by with_reducible assumption))) (cwV 3 hts gX6_move_X6_putWalled rfl rfl rfl (by decide +kernel) ⟨Nat.le_of_ble_eq_true rfl, Nat.le_of_ble_eq_true rfl⟩) hP hD (hK.sub [0, 1, 2, 3, 4, 5] rfl) hNW hS hA [0, 1, 2, 3, 4, 5, 6, 7, 8, 9] [] rfl (wr := []) rfl (by decide) (by decide) (by decide) rfl rfl rfl hl.1 rfl (Nat.le_of_ble_eq_true rfl) dX6_move_78 ⟨Nat.le_of_ble_eq_true rfl, Nat.le_of_ble_eq_true rfl⟩ (fun H locs hP hD hS => ?_)
        generalize hz_5 : mX6_putWalled u a0 (mX0_sum_w u.2.2.2.1 (u.2.2.2.1.2.2.2 a0.toNatClampNeg) a1) (mX0_sum_h u.2.2.2.2.1 (u.2.2.2.2.1.2.2.2 a0.toNatClampNeg) (mX3_widened a2)) = z_5 at hP hD ⊢
        have hP : va_P (dC, dI) vwCl (WT ad ca z_5.2) H := hP.sub [0, 1, 2, 3, 4, 5, 6, 7, 8, 9] rfl
        have hD : va_D (va_A (WT ad ca u) s.heap.size) (WT ad ca z_5.2) := hD.sub [0, 1, 2, 3, 4, 5, 6, 7, 8, 9] (by decide) rfl
        refine W.eq (g2 := F0 m 81 ls (.int z_5.1 :: [])) rfl ?_
        have he : mX6_move u a0 a1 a2 = (z_5.1, z_5.2) := by rw [mX6_move, if_neg c_1, if_pos c_2, if_pos c_4, hz_5]
        exact rM_i hx hb hr hlocks hP hD hS (by rw [he]) (by rw [he]) dX6_move_81
      · refine lv_aload_n hx hb dX6_move_35 rfl (lv_at hl 1 rfl) ?_
        refine lv_iconst (v := (2 : Int32)) hx hb dX6_move_36 (by decide) ?_
        refine hc_M (C := RX6) (ci := 2) (T := TX6) (N := 7) (As := [.int (2 : Int32)]) (rest := []) ⟨hx, hb, hml, hown, hts⟩ (ct_X6_refuse l dC dI ad ca _ u (2 : Int32)) (cwV 1 hts gX6_move_X6_refuse rfl rfl rfl (by decide +kernel) ⟨Nat.le_of_ble_eq_true rfl, Nat.le_of_ble_eq_true rfl⟩) hP hD (hK.sub [0, 1, 2, 3, 4, 5] rfl) hNW hS hA [0, 1, 2, 3, 4, 5, 6, 7, 8, 9] [] rfl (wr := []) rfl (by decide) (by decide) (by decide) rfl rfl rfl hl.1 rfl (Nat.le_of_ble_eq_true rfl) dX6_move_37 ⟨Nat.le_of_ble_eq_true rfl, Nat.le_of_ble_eq_true rfl⟩ (fun H locs hP hD hS => ?_)
        generalize hz_6 : mX6_refuse u (2 : Int32) = z_6 at hP hD ⊢
        have hP : va_P (dC, dI) vwCl (WT ad ca z_6.2) H := hP.sub [0, 1, 2, 3, 4, 5, 6, 7, 8, 9] rfl
        have hD : va_D (va_A (WT ad ca u) s.heap.size) (WT ad ca z_6.2) := hD.sub [0, 1, 2, 3, 4, 5, 6, 7, 8, 9] (by decide) rfl
        refine W.eq (g2 := F0 m 40 ls (.int z_6.1 :: [])) rfl ?_
        have he : mX6_move u a0 a1 a2 = (z_6.1, z_6.2) := by rw [mX6_move, if_neg c_1, if_pos c_2, if_neg c_4, hz_6]
        exact rM_i hx hb hr hlocks hP hD hS (by rw [he]) (by rw [he]) dX6_move_40
  · refine lv_aload_n hx hb dX6_move_14 rfl (lv_at hl 1 rfl) ?_
    refine lv_iconst (v := (1 : Int32)) hx hb dX6_move_15 (by decide) ?_
    refine hc_M (C := RX6) (ci := 2) (T := TX6) (N := 7) (As := [.int (1 : Int32)]) (rest := []) ⟨hx, hb, hml, hown, hts⟩ (ct_X6_refuse l dC dI ad ca _ u (1 : Int32)) (cwV 1 hts gX6_move_X6_refuse rfl rfl rfl (by decide +kernel) ⟨Nat.le_of_ble_eq_true rfl, Nat.le_of_ble_eq_true rfl⟩) hP hD (hK.sub [0, 1, 2, 3, 4, 5] rfl) hNW hS hA [0, 1, 2, 3, 4, 5, 6, 7, 8, 9] [] rfl (wr := []) rfl (by decide) (by decide) (by decide) rfl rfl rfl hl.1 rfl (Nat.le_of_ble_eq_true rfl) dX6_move_16 ⟨Nat.le_of_ble_eq_true rfl, Nat.le_of_ble_eq_true rfl⟩ (fun H locs hP hD hS => ?_)
    generalize hz_7 : mX6_refuse u (1 : Int32) = z_7 at hP hD ⊢
    have hP : va_P (dC, dI) vwCl (WT ad ca z_7.2) H := hP.sub [0, 1, 2, 3, 4, 5, 6, 7, 8, 9] rfl
    have hD : va_D (va_A (WT ad ca u) s.heap.size) (WT ad ca z_7.2) := hD.sub [0, 1, 2, 3, 4, 5, 6, 7, 8, 9] (by decide) rfl
    refine W.eq (g2 := F0 m 19 ls (.int z_7.1 :: [])) rfl ?_
    have he : mX6_move u a0 a1 a2 = (z_7.1, z_7.2) := by rw [mX6_move, if_pos c_1, hz_7]
    exact rM_i hx hb hr hlocks hP hD hS (by rw [he]) (by rw [he]) dX6_move_19

def mX6_snap (u : TS) (a0 : Int32) (a1 : Int32) : Int32 × TS := (if (mX6_isPoint a0) = 0 then ((mX6_refuse u (1 : Int32)).1, (mX6_refuse u (1 : Int32)).2) else (if (mX5_isWay a1) = 0 then ((mX6_refuse u (1 : Int32)).1, (mX6_refuse u (1 : Int32)).2) else ((mX6_putWalled u a0 (mX0_snapped_w u.2.2.2.1 (u.2.2.2.1.2.2.2 a0.toNatClampNeg) a1) (mX0_snapped_h u.2.2.2.2.1 (u.2.2.2.2.1.2.2.2 a0.toNatClampNeg) a1)).1, (mX6_putWalled u a0 (mX0_snapped_w u.2.2.2.1 (u.2.2.2.1.2.2.2 a0.toNatClampNeg) a1) (mX0_snapped_h u.2.2.2.2.1 (u.2.2.2.2.1.2.2.2 a0.toNatClampNeg) a1)).2)))
set_option maxHeartbeats 4000000 in
set_option maxRecDepth 100000 in
theorem ct_X6_snap (l : Launch) (dC : Nat → ClassId) (dI : Nat → Nat → Nat) (ad : Nat → Nat) (ca : Nat → ClassId) (sz : Nat) (u : TS) (a0 : Int32) (a1 : Int32) (hn : vp_in u.2.2.2.2.2.1.1 16) (hW1 : vp_in a0 8 → FP.dIsNaN (FP.ddiv (mX1_valueOfSize (u.2.2.2.1.2.2.2 a0.toNatClampNeg)) (mX1_valueOfSize u.2.2.2.1.2.2.1)) = false) (hW2 : vp_in a0 8 → ¬ mX5_isWay a1 = 0 → FP.dIsNaN (FP.dmul (mX1_valueOfSize (mX0_wholeSteps_w u.2.2.2.1 (u.2.2.2.1.2.2.2 a0.toNatClampNeg) a1)) (mX1_valueOfSize u.2.2.2.1.2.2.1)) = false) (hH1 : vp_in a0 8 → FP.fIsNaN (FP.fdiv (FP.d2f (mX1_valueOfSize (u.2.2.2.2.1.2.2.2 a0.toNatClampNeg))) (FP.d2f (mX1_valueOfSize u.2.2.2.2.1.2.2.1))) = false) (hH2 : vp_in a0 8 → ¬ mX5_isWay a1 = 0 → FP.fIsNaN (FP.fmul (FP.d2f (mX1_valueOfSize (mX0_wholeSteps_h u.2.2.2.2.1 (u.2.2.2.2.1.2.2.2 a0.toNatClampNeg) a1))) (FP.d2f (mX1_valueOfSize u.2.2.2.2.1.2.2.1))) = false) : Met l yX6_snap wsX6_snap { frames := 6, cells := 0, slots := 0, locals := 155 } (pM (dC, dI) vwCl [((ca 4), .long), ((ca 5), .long), ((ca 6), .long), ((ca 7), .int), ((ca 8), .long), ((ca 9), .long)] (WT ad ca u) sz [.ref (ad 0), .int a0, .int a1]) (qM (dC, dI) vwCl (WT ad ca u) sz (some (.int (mX6_snap u a0 a1).1)) (WT ad ca (mX6_snap u a0 a1).2)) 0 0 (va_A (WT ad ca u) sz) := by
  refine Met.ofW (cc := cX6_snap) (maxL := 3) (ret := (some .int)) (by decide) rfl ?_
  intro p e s m args below meth c s₁ B hml hv
  obtain ⟨rfl, hsz, hP, hK, hD0, hNW⟩ := hv
  subst hsz
  have hx := B.exec
  have hb := B.bytes
  have hr := B.returns
  have hts := atoms_spec (ws := wsX6_snap) B.pre
  have hown : s.vm.findClass RX6 = some m.cls := findClass_of_methodNamed B.named
  have hlocks := B.notSynchronized
  have hin0 : ∀ w ∈ wsX00, w ∈ wsX6_snap := by decide +kernel
  have hin6 : ∀ w ∈ wsX60, w ∈ wsX6_snap := by decide +kernel
  have hD : va_D (va_A (WT ad ca u) s.heap.size) (WT ad ca u) := hD0.self
  have hA : ∀ q : Nat, s.heap.size ≤ q → va_A (WT ad ca u) s.heap.size q := fun q h => Or.inr h
  have hS : va_S (va_A (WT ad ca u) s.heap.size) s.heap s.heap [] := va_S.rf
  have hl := lv_entry ([.ref (ad 0), .int a0, .int a1]) (n := 3) (Nat.le_of_ble_eq_true rfl)
  rw [lg_entry_eq]
  generalize (lg_sl ([.ref (ad 0), .int a0, .int a1]) ++ List.replicate (3 - (lg_sl ([.ref (ad 0), .int a0, .int a1])).length) Slot.unset).toArray = ls at hl ⊢
  have hl : lv_has ls 3 [(0, .ref (ad 0)), (1, .int a0), (2, .int a1)] := hl
  refine lv_iload_n hx hb dX6_snap_0 rfl (lv_at hl 1 rfl) ?_
  refine hc_S (As := [.int a0]) (rest := []) ⟨hx, hb, hml, hown, hts⟩ (ct_X6_isPoint l a0) (va_cwS 1 hts gX6_snap_X6_isPoint rfl rfl rfl (by decide +kernel) ⟨Nat.le_of_ble_eq_true rfl, Nat.le_of_ble_eq_true rfl⟩) rfl hl.1 rfl (Nat.le_of_ble_eq_true rfl) dX6_snap_1 ⟨Nat.le_of_ble_eq_true rfl, Nat.le_of_ble_eq_true rfl⟩ ?_
  refine lv_if_eq (tgt := 14) hx hb dX6_snap_4 (by decide) (fun c_1 => ?_) (fun c_1 => ?_)
  · refine lv_aload_n hx hb dX6_snap_14 rfl (lv_at hl 0 rfl) ?_
    refine lv_iconst (v := (1 : Int32)) hx hb dX6_snap_15 (by decide) ?_
    refine hc_M (C := RX6) (ci := 2) (T := TX6) (N := 7) (As := [.int (1 : Int32)]) (rest := []) ⟨hx, hb, hml, hown, hts⟩ (ct_X6_refuse l dC dI ad ca _ u (1 : Int32)) (cwV 1 hts gX6_snap_X6_refuse rfl rfl rfl (by decide +kernel) ⟨Nat.le_of_ble_eq_true rfl, Nat.le_of_ble_eq_true rfl⟩) hP hD (hK.sub [0, 1, 2, 3, 4, 5] rfl) hNW hS hA [0, 1, 2, 3, 4, 5, 6, 7, 8, 9] [] rfl (wr := []) rfl (by decide) (by decide) (by decide) rfl rfl rfl hl.1 rfl (Nat.le_of_ble_eq_true rfl) dX6_snap_16 ⟨Nat.le_of_ble_eq_true rfl, Nat.le_of_ble_eq_true rfl⟩ (fun H locs hP hD hS => ?_)
    generalize hz_2 : mX6_refuse u (1 : Int32) = z_2 at hP hD ⊢
    have hP : va_P (dC, dI) vwCl (WT ad ca z_2.2) H := hP.sub [0, 1, 2, 3, 4, 5, 6, 7, 8, 9] rfl
    have hD : va_D (va_A (WT ad ca u) s.heap.size) (WT ad ca z_2.2) := hD.sub [0, 1, 2, 3, 4, 5, 6, 7, 8, 9] (by decide) rfl
    refine W.eq (g2 := F0 m 19 ls (.int z_2.1 :: [])) rfl ?_
    have he : mX6_snap u a0 a1 = (z_2.1, z_2.2) := by rw [mX6_snap, if_pos c_1, hz_2]
    exact rM_i hx hb hr hlocks hP hD hS (by rw [he]) (by rw [he]) dX6_snap_19
  · refine lv_iload_n hx hb dX6_snap_7 rfl (lv_at hl 2 rfl) ?_
    refine hc_S (As := [.int a1]) (rest := []) ⟨hx, hb, hml, hown, hts⟩ (ct_X5_isWay l a1) (va_cwS 1 hts gX6_snap_X5_isWay rfl rfl rfl (by decide +kernel) ⟨Nat.le_of_ble_eq_true rfl, Nat.le_of_ble_eq_true rfl⟩) rfl hl.1 rfl (Nat.le_of_ble_eq_true rfl) dX6_snap_8 ⟨Nat.le_of_ble_eq_true rfl, Nat.le_of_ble_eq_true rfl⟩ ?_
    refine lv_if_ne (tgt := 20) hx hb dX6_snap_11 (by decide) (fun c_3 => ?_) (fun c_3 => ?_)
    · refine lv_aload_n hx hb dX6_snap_20 rfl (lv_at hl 0 rfl) ?_
      refine lv_iload_n hx hb dX6_snap_21 rfl (lv_at hl 1 rfl) ?_
      refine lv_aload_n hx hb dX6_snap_22 rfl (lv_at hl 0 rfl) ?_
      refine va_get (D := (dC, dI)) (ci := 2) (v := .ref (ad 1)) (C := RX6) (T := TX6) (N := 7) hx hb hts hin6 hown hK hP 0 rfl rfl 0 (by decide) (hts (.fieldLink RX6 12 "SnapTable" "widths" "LSnapTable$Axis;") (by decide +kernel)) (fun _ h9 => h9) rfl dX6_snap_23 ?_
      refine lv_aload_n hx hb dX6_snap_26 rfl (lv_at hl 0 rfl) ?_
      refine va_get (D := (dC, dI)) (ci := 2) (v := .ref (ad 1)) (C := RX6) (T := TX6) (N := 7) hx hb hts hin6 hown hK hP 0 rfl rfl 0 (by decide) (hts (.fieldLink RX6 12 "SnapTable" "widths" "LSnapTable$Axis;") (by decide +kernel)) (fun _ h9 => h9) rfl dX6_snap_27 ?_
      refine va_getN (D := (dC, dI)) (ci := 0) (v := .ref (ad 5)) (C := RX0) (T := TX0) (N := 5) hx hb hts hin0 hown hK hP 1 rfl rfl 1 (by decide) (va_Nw.use rfl hNW.1) (fun _ h9 => h9) rfl dX6_snap_30 ?_
      refine lv_iload_n hx hb dX6_snap_33 rfl (lv_at hl 1 rfl) ?_
      refine va_lald hx hb hK hP 5 1 rfl rfl (by first | with_reducible assumption | with_reducible exact pt_in (by with_reducible assumption) | with_reducible exact ptm_in (by with_reducible assumption) | exact LU.vin (B := 8) hm (by decide) (by with_reducible assumption) (by decide) | exact LU.vin (B := 4) hm (by decide) (by with_reducible assumption) (by decide) | exact LU.vin (B := 16) hm (by decide) (by with_reducible assumption) (by decide) | exact vp_in_nI (n := 0) (by decide) (by decide) | with_reducible exact gdm_in (by with_reducible assumption) (by with_reducible assumption) | with_reducible exact gd_in (by with_reducible assumption) (by with_reducible assumption)) dX6_snap_34 ?_
      refine lv_iload_n hx hb dX6_snap_35 rfl (lv_at hl 2 rfl) ?_
      refine hc_V (C := RX0) (ci := 0) (T := TX0) (N := 5) (As := [.long (u.2.2.2.1.2.2.2 a0.toNatClampNeg), .int a1]) (rest := [.int a0, .ref (ad 0)]) ⟨hx, hb, hml, hown, hts⟩ (ct_X0_snapped_w l dC dI (ad 1) (ad 5) (ca 5) u.2.2.2.1 (u.2.2.2.1.2.2.2 a0.toNatClampNeg) a1 (by first | with_reducible assumption | with_reducible exact pt_in (by with_reducible assumption) | with_reducible exact hW1 (pt_in (by with_reducible assumption)) | with_reducible exact hW2 (pt_in (by with_reducible assumption)) (by with_reducible assumption) | with_reducible exact hH1 (pt_in (by with_reducible assumption)) | with_reducible exact hH2 (pt_in (by with_reducible assumption)) (by with_reducible assumption)) (by first | with_reducible assumption | with_reducible exact pt_in (by with_reducible assumption) | with_reducible exact hW1 (pt_in (by with_reducible assumption)) | with_reducible exact hW2 (pt_in (by with_reducible assumption)) (by with_reducible assumption) | with_reducible exact hH1 (pt_in (by with_reducible assumption)) | with_reducible exact hH2 (pt_in (by with_reducible assumption)) (by with_reducible assumption))) (cwV 2 hts gX6_snap_X0_snapped rfl rfl rfl (by decide +kernel) ⟨Nat.le_of_ble_eq_true rfl, Nat.le_of_ble_eq_true rfl⟩) (hw_part hP [1, 5] rfl) (hK.sub [1] rfl) hNW rfl rfl rfl hl.1 rfl (Nat.le_of_ble_eq_true rfl) dX6_snap_36 ⟨Nat.le_of_ble_eq_true rfl, Nat.le_of_ble_eq_true rfl⟩ ?_
      refine lv_aload_n hx hb dX6_snap_39 rfl (lv_at hl 0 rfl) ?_
      refine va_get (D := (dC, dI)) (ci := 2) (v := .ref (ad 2)) (C := RX6) (T := TX6) (N := 7) hx hb hts hin6 hown hK hP 0 rfl rfl 1 (by decide) (hts (.fieldLink RX6 18 "SnapTable" "heights" "LSnapTable$Axis;") (by decide +kernel)) (fun _ h9 => h9) rfl dX6_snap_40 ?_
      refine lv_aload_n hx hb dX6_snap_43 rfl (lv_at hl 0 rfl) ?_
      refine va_get (D := (dC, dI)) (ci := 2) (v := .ref (ad 2)) (C := RX6) (T := TX6) (N := 7) hx hb hts hin6 hown hK hP 0 rfl rfl 1 (by decide) (hts (.fieldLink RX6 18 "SnapTable" "heights" "LSnapTable$Axis;") (by decide +kernel)) (fun _ h9 => h9) rfl dX6_snap_44 ?_
      refine va_getN (D := (dC, dI)) (ci := 0) (v := .ref (ad 6)) (C := RX0) (T := TX0) (N := 5) hx hb hts hin0 hown hK hP 2 rfl rfl 1 (by decide) (va_Nw.use rfl hNW.1) (fun _ h9 => h9) rfl dX6_snap_47 ?_
      refine lv_iload_n hx hb dX6_snap_50 rfl (lv_at hl 1 rfl) ?_
      refine va_lald hx hb hK hP 6 2 rfl rfl (by first | with_reducible assumption | with_reducible exact pt_in (by with_reducible assumption) | with_reducible exact ptm_in (by with_reducible assumption) | exact LU.vin (B := 8) hm (by decide) (by with_reducible assumption) (by decide) | exact LU.vin (B := 4) hm (by decide) (by with_reducible assumption) (by decide) | exact LU.vin (B := 16) hm (by decide) (by with_reducible assumption) (by decide) | exact vp_in_nI (n := 0) (by decide) (by decide) | with_reducible exact gdm_in (by with_reducible assumption) (by with_reducible assumption) | with_reducible exact gd_in (by with_reducible assumption) (by with_reducible assumption)) dX6_snap_51 ?_
      refine lv_iload_n hx hb dX6_snap_52 rfl (lv_at hl 2 rfl) ?_
      refine hc_V (C := RX0) (ci := 0) (T := TX0) (N := 5) (As := [.long (u.2.2.2.2.1.2.2.2 a0.toNatClampNeg), .int a1]) (rest := [.long (mX0_snapped_w u.2.2.2.1 (u.2.2.2.1.2.2.2 a0.toNatClampNeg) a1), .int a0, .ref (ad 0)]) ⟨hx, hb, hml, hown, hts⟩ (ct_X0_snapped_h l dC dI (ad 2) (ad 6) (ca 6) u.2.2.2.2.1 (u.2.2.2.2.1.2.2.2 a0.toNatClampNeg) a1 (by first | with_reducible assumption | with_reducible exact pt_in (by with_reducible assumption) | with_reducible exact hW1 (pt_in (by with_reducible assumption)) | with_reducible exact hW2 (pt_in (by with_reducible assumption)) (by with_reducible assumption) | with_reducible exact hH1 (pt_in (by with_reducible assumption)) | with_reducible exact hH2 (pt_in (by with_reducible assumption)) (by with_reducible assumption)) (by first | with_reducible assumption | with_reducible exact pt_in (by with_reducible assumption) | with_reducible exact hW1 (pt_in (by with_reducible assumption)) | with_reducible exact hW2 (pt_in (by with_reducible assumption)) (by with_reducible assumption) | with_reducible exact hH1 (pt_in (by with_reducible assumption)) | with_reducible exact hH2 (pt_in (by with_reducible assumption)) (by with_reducible assumption))) (cwV 2 hts gX6_snap_X0_snapped rfl rfl rfl (by decide +kernel) ⟨Nat.le_of_ble_eq_true rfl, Nat.le_of_ble_eq_true rfl⟩) (hw_part hP [2, 6] rfl) (hK.sub [2] rfl) hNW rfl rfl rfl hl.1 rfl (Nat.le_of_ble_eq_true rfl) dX6_snap_53 ⟨Nat.le_of_ble_eq_true rfl, Nat.le_of_ble_eq_true rfl⟩ ?_
      refine hc_M (C := RX6) (ci := 2) (T := TX6) (N := 7) (As := [.int a0, .long (mX0_snapped_w u.2.2.2.1 (u.2.2.2.1.2.2.2 a0.toNatClampNeg) a1), .long (mX0_snapped_h u.2.2.2.2.1 (u.2.2.2.2.1.2.2.2 a0.toNatClampNeg) a1)]) (rest := []) ⟨hx, hb, hml, hown, hts⟩ (ct_X6_putWalled l dC dI ad ca _ u a0 (mX0_snapped_w u.2.2.2.1 (u.2.2.2.1.2.2.2 a0.toNatClampNeg) a1) (mX0_snapped_h u.2.2.2.2.1 (u.2.2.2.2.1.2.2.2 a0.toNatClampNeg) a1) (by first | with_reducible assumption | with_reducible exact pt_in (by with_reducible assumption) | with_reducible exact hW1 (pt_in (by with_reducible assumption)) | with_reducible exact hW2 (pt_in (by with_reducible assumption)) (by with_reducible assumption) | with_reducible exact hH1 (pt_in (by with_reducible assumption)) | with_reducible exact hH2 (pt_in (by with_reducible assumption)) (by with_reducible assumption)) (by first | with_reducible assumption | with_reducible exact pt_in (by with_reducible assumption) | with_reducible exact hW1 (pt_in (by with_reducible assumption)) | with_reducible exact hW2 (pt_in (by with_reducible assumption)) (by with_reducible assumption) | with_reducible exact hH1 (pt_in (by with_reducible assumption)) | with_reducible exact hH2 (pt_in (by with_reducible assumption)) (by with_reducible assumption))) (cwV 3 hts gX6_snap_X6_putWalled rfl rfl rfl (by decide +kernel) ⟨Nat.le_of_ble_eq_true rfl, Nat.le_of_ble_eq_true rfl⟩) hP hD (hK.sub [0, 1, 2, 3, 4, 5] rfl) hNW hS hA [0, 1, 2, 3, 4, 5, 6, 7, 8, 9] [] rfl (wr := []) rfl (by decide) (by decide) (by decide) rfl rfl rfl hl.1 rfl (Nat.le_of_ble_eq_true rfl) dX6_snap_56 ⟨Nat.le_of_ble_eq_true rfl, Nat.le_of_ble_eq_true rfl⟩ (fun H locs hP hD hS => ?_)
      generalize hz_4 : mX6_putWalled u a0 (mX0_snapped_w u.2.2.2.1 (u.2.2.2.1.2.2.2 a0.toNatClampNeg) a1) (mX0_snapped_h u.2.2.2.2.1 (u.2.2.2.2.1.2.2.2 a0.toNatClampNeg) a1) = z_4 at hP hD ⊢
      have hP : va_P (dC, dI) vwCl (WT ad ca z_4.2) H := hP.sub [0, 1, 2, 3, 4, 5, 6, 7, 8, 9] rfl
      have hD : va_D (va_A (WT ad ca u) s.heap.size) (WT ad ca z_4.2) := hD.sub [0, 1, 2, 3, 4, 5, 6, 7, 8, 9] (by decide) rfl
      refine W.eq (g2 := F0 m 59 ls (.int z_4.1 :: [])) rfl ?_
      have he : mX6_snap u a0 a1 = (z_4.1, z_4.2) := by rw [mX6_snap, if_neg c_1, if_neg c_3, hz_4]
      exact rM_i hx hb hr hlocks hP hD hS (by rw [he]) (by rw [he]) dX6_snap_59
    · refine lv_aload_n hx hb dX6_snap_14 rfl (lv_at hl 0 rfl) ?_
      refine lv_iconst (v := (1 : Int32)) hx hb dX6_snap_15 (by decide) ?_
      refine hc_M (C := RX6) (ci := 2) (T := TX6) (N := 7) (As := [.int (1 : Int32)]) (rest := []) ⟨hx, hb, hml, hown, hts⟩ (ct_X6_refuse l dC dI ad ca _ u (1 : Int32)) (cwV 1 hts gX6_snap_X6_refuse rfl rfl rfl (by decide +kernel) ⟨Nat.le_of_ble_eq_true rfl, Nat.le_of_ble_eq_true rfl⟩) hP hD (hK.sub [0, 1, 2, 3, 4, 5] rfl) hNW hS hA [0, 1, 2, 3, 4, 5, 6, 7, 8, 9] [] rfl (wr := []) rfl (by decide) (by decide) (by decide) rfl rfl rfl hl.1 rfl (Nat.le_of_ble_eq_true rfl) dX6_snap_16 ⟨Nat.le_of_ble_eq_true rfl, Nat.le_of_ble_eq_true rfl⟩ (fun H locs hP hD hS => ?_)
      generalize hz_5 : mX6_refuse u (1 : Int32) = z_5 at hP hD ⊢
      have hP : va_P (dC, dI) vwCl (WT ad ca z_5.2) H := hP.sub [0, 1, 2, 3, 4, 5, 6, 7, 8, 9] rfl
      have hD : va_D (va_A (WT ad ca u) s.heap.size) (WT ad ca z_5.2) := hD.sub [0, 1, 2, 3, 4, 5, 6, 7, 8, 9] (by decide) rfl
      refine W.eq (g2 := F0 m 19 ls (.int z_5.1 :: [])) rfl ?_
      have he : mX6_snap u a0 a1 = (z_5.1, z_5.2) := by rw [mX6_snap, if_neg c_1, if_pos c_3, hz_5]
      exact rM_i hx hb hr hlocks hP hD hS (by rw [he]) (by rw [he]) dX6_snap_19

def mX6_swing (u : TS) (a0 : Int32) (a1 : Int64) : Int32 × TS := (if (mX6_isPoint a0) = 0 then ((mX6_refuse u (1 : Int32)).1, (mX6_refuse u (1 : Int32)).2) else (if (mX1_isNone a1) = 0 then (if (mX1_isInfinite a1) = 0 then ((mX6_putWalled u a0 (mX0_sum_w u.2.2.2.1 (mX0_sum_w u.2.2.2.1 a1 a1) (mX1_opposite (u.2.2.2.1.2.2.2 a0.toNatClampNeg))) (mX1_opposite (u.2.2.2.2.1.2.2.2 a0.toNatClampNeg))).1, (mX6_putWalled u a0 (mX0_sum_w u.2.2.2.1 (mX0_sum_w u.2.2.2.1 a1 a1) (mX1_opposite (u.2.2.2.1.2.2.2 a0.toNatClampNeg))) (mX1_opposite (u.2.2.2.2.1.2.2.2 a0.toNatClampNeg))).2) else ((mX6_refuse u (3 : Int32)).1, (mX6_refuse u (3 : Int32)).2)) else ((mX6_refuse u (2 : Int32)).1, (mX6_refuse u (2 : Int32)).2)))
set_option maxHeartbeats 4000000 in
set_option maxRecDepth 100000 in
theorem ct_X6_swing (l : Launch) (dC : Nat → ClassId) (dI : Nat → Nat → Nat) (ad : Nat → Nat) (ca : Nat → ClassId) (sz : Nat) (u : TS) (a0 : Int32) (a1 : Int64) (hn : vp_in u.2.2.2.2.2.1.1 16) (hd1 : mX1_isNone a1 = 0 → mX1_isInfinite a1 = 0 → FP.dIsNaN (FP.dadd (mX1_value a1) (mX1_value a1)) = false) (hd2 : vp_in a0 8 → mX1_isNone a1 = 0 → mX1_isInfinite a1 = 0 → FP.dIsNaN (FP.dadd (mX1_value (mX0_sum_w u.2.2.2.1 a1 a1)) (mX1_value (mX1_opposite (u.2.2.2.1.2.2.2 a0.toNatClampNeg)))) = false) : Met l yX6_swing wsX6_swing { frames := 5, cells := 0, slots := 0, locals := 123 } (pM (dC, dI) vwCl [((ca 4), .long), ((ca 5), .long), ((ca 6), .long), ((ca 7), .int), ((ca 8), .long), ((ca 9), .long)] (WT ad ca u) sz [.ref (ad 0), .int a0, .long a1]) (qM (dC, dI) vwCl (WT ad ca u) sz (some (.int (mX6_swing u a0 a1).1)) (WT ad ca (mX6_swing u a0 a1).2)) 0 0 (va_A (WT ad ca u) sz) := by
  refine Met.ofW (cc := cX6_swing) (maxL := 6) (ret := (some .int)) (by decide) rfl ?_
  intro p e s m args below meth c s₁ B hml hv
  obtain ⟨rfl, hsz, hP, hK, hD0, hNW⟩ := hv
  subst hsz
  have hx := B.exec
  have hb := B.bytes
  have hr := B.returns
  have hts := atoms_spec (ws := wsX6_swing) B.pre
  have hown : s.vm.findClass RX6 = some m.cls := findClass_of_methodNamed B.named
  have hlocks := B.notSynchronized
  have hin0 : ∀ w ∈ wsX00, w ∈ wsX6_swing := by decide +kernel
  have hin6 : ∀ w ∈ wsX60, w ∈ wsX6_swing := by decide +kernel
  have hD : va_D (va_A (WT ad ca u) s.heap.size) (WT ad ca u) := hD0.self
  have hA : ∀ q : Nat, s.heap.size ≤ q → va_A (WT ad ca u) s.heap.size q := fun q h => Or.inr h
  have hS : va_S (va_A (WT ad ca u) s.heap.size) s.heap s.heap [] := va_S.rf
  have hl := lv_entry ([.ref (ad 0), .int a0, .long a1]) (n := 6) (Nat.le_of_ble_eq_true rfl)
  rw [lg_entry_eq]
  generalize (lg_sl ([.ref (ad 0), .int a0, .long a1]) ++ List.replicate (6 - (lg_sl ([.ref (ad 0), .int a0, .long a1])).length) Slot.unset).toArray = ls at hl ⊢
  have hl : lv_has ls 6 [(0, .ref (ad 0)), (1, .int a0), (2, .long a1)] := hl
  refine lv_iload_n hx hb dX6_swing_0 rfl (lv_at hl 1 rfl) ?_
  refine hc_S (As := [.int a0]) (rest := []) ⟨hx, hb, hml, hown, hts⟩ (ct_X6_isPoint l a0) (va_cwS 1 hts gX6_swing_X6_isPoint rfl rfl rfl (by decide +kernel) ⟨Nat.le_of_ble_eq_true rfl, Nat.le_of_ble_eq_true rfl⟩) rfl hl.1 rfl (Nat.le_of_ble_eq_true rfl) dX6_swing_1 ⟨Nat.le_of_ble_eq_true rfl, Nat.le_of_ble_eq_true rfl⟩ ?_
  refine lv_if_ne (tgt := 13) hx hb dX6_swing_4 (by decide) (fun c_1 => ?_) (fun c_1 => ?_)
  · refine lv_lload_n hx hb dX6_swing_13 rfl (lv_at hl 2 rfl) ?_
    refine hc_S (As := [.long a1]) (rest := []) ⟨hx, hb, hml, hown, hts⟩ (ct_X1_isNone l a1) (va_cwS 1 hts gX6_swing_X1_isNone rfl rfl rfl (by decide +kernel) ⟨Nat.le_of_ble_eq_true rfl, Nat.le_of_ble_eq_true rfl⟩) rfl hl.1 rfl (Nat.le_of_ble_eq_true rfl) dX6_swing_14 ⟨Nat.le_of_ble_eq_true rfl, Nat.le_of_ble_eq_true rfl⟩ ?_
    refine lv_if_eq (tgt := 26) hx hb dX6_swing_17 (by decide) (fun c_2 => ?_) (fun c_2 => ?_)
    · refine lv_lload_n hx hb dX6_swing_26 rfl (lv_at hl 2 rfl) ?_
      refine hc_S (As := [.long a1]) (rest := []) ⟨hx, hb, hml, hown, hts⟩ (ct_X1_isInfinite l a1) (va_cwS 1 hts gX6_swing_X1_isInfinite rfl rfl rfl (by decide +kernel) ⟨Nat.le_of_ble_eq_true rfl, Nat.le_of_ble_eq_true rfl⟩) rfl hl.1 rfl (Nat.le_of_ble_eq_true rfl) dX6_swing_27 ⟨Nat.le_of_ble_eq_true rfl, Nat.le_of_ble_eq_true rfl⟩ ?_
      refine lv_if_eq (tgt := 39) hx hb dX6_swing_30 (by decide) (fun c_3 => ?_) (fun c_3 => ?_)
      · refine lv_aload_n hx hb dX6_swing_39 rfl (lv_at hl 0 rfl) ?_
        refine va_get (D := (dC, dI)) (ci := 2) (v := .ref (ad 1)) (C := RX6) (T := TX6) (N := 7) hx hb hts hin6 hown hK hP 0 rfl rfl 0 (by decide) (hts (.fieldLink RX6 12 "SnapTable" "widths" "LSnapTable$Axis;") (by decide +kernel)) (fun _ h9 => h9) rfl dX6_swing_40 ?_
        refine lv_lload_n hx hb dX6_swing_43 rfl (lv_at hl 2 rfl) ?_
        refine lv_lload_n hx hb dX6_swing_44 rfl (lv_at hl 2 rfl) ?_
        refine hc_V (C := RX0) (ci := 0) (T := TX0) (N := 5) (As := [.long a1, .long a1]) (rest := []) ⟨hx, hb, hml, hown, hts⟩ (ct_X0_sum_w l dC dI (ad 1) (ad 5) (ca 5) u.2.2.2.1 a1 a1 (by first | with_reducible assumption | with_reducible exact pt_in (by with_reducible assumption) | with_reducible exact hd1 (by with_reducible assumption) (by with_reducible assumption) | with_reducible exact hd2 (pt_in (by with_reducible assumption)) (by with_reducible assumption) (by with_reducible assumption))) (cwV 2 hts gX6_swing_X0_sum rfl rfl rfl (by decide +kernel) ⟨Nat.le_of_ble_eq_true rfl, Nat.le_of_ble_eq_true rfl⟩) (hw_part hP [1, 5] rfl) (hK.sub [1] rfl) hNW rfl rfl rfl hl.1 rfl (Nat.le_of_ble_eq_true rfl) dX6_swing_45 ⟨Nat.le_of_ble_eq_true rfl, Nat.le_of_ble_eq_true rfl⟩ ?_
        refine lv_lstore (lv' := [(4, .long (mX0_sum_w u.2.2.2.1 a1 a1)), (0, .ref (ad 0)), (1, .int a0), (2, .long a1)]) hx hb dX6_swing_48 hl (by decide) rfl (fun ls hl => ?_)
        refine lv_aload_n hx hb dX6_swing_50 rfl (lv_at hl 1 rfl) ?_
        refine lv_iload_n hx hb dX6_swing_51 rfl (lv_at hl 2 rfl) ?_
        refine lv_aload_n hx hb dX6_swing_52 rfl (lv_at hl 1 rfl) ?_
        refine va_get (D := (dC, dI)) (ci := 2) (v := .ref (ad 1)) (C := RX6) (T := TX6) (N := 7) hx hb hts hin6 hown hK hP 0 rfl rfl 0 (by decide) (hts (.fieldLink RX6 12 "SnapTable" "widths" "LSnapTable$Axis;") (by decide +kernel)) (fun _ h9 => h9) rfl dX6_swing_53 ?_
        refine lv_lload hx hb dX6_swing_56 (lv_at hl 0 rfl) ?_
        refine lv_aload_n hx hb dX6_swing_58 rfl (lv_at hl 1 rfl) ?_
        refine va_get (D := (dC, dI)) (ci := 2) (v := .ref (ad 1)) (C := RX6) (T := TX6) (N := 7) hx hb hts hin6 hown hK hP 0 rfl rfl 0 (by decide) (hts (.fieldLink RX6 12 "SnapTable" "widths" "LSnapTable$Axis;") (by decide +kernel)) (fun _ h9 => h9) rfl dX6_swing_59 ?_
        refine va_getN (D := (dC, dI)) (ci := 0) (v := .ref (ad 5)) (C := RX0) (T := TX0) (N := 5) hx hb hts hin0 hown hK hP 1 rfl rfl 1 (by decide) (va_Nw.use rfl hNW.1) (fun _ h9 => h9) rfl dX6_swing_62 ?_
        refine lv_iload_n hx hb dX6_swing_65 rfl (lv_at hl 2 rfl) ?_
        refine va_lald hx hb hK hP 5 1 rfl rfl (by first | with_reducible assumption | with_reducible exact pt_in (by with_reducible assumption) | with_reducible exact ptm_in (by with_reducible assumption) | exact LU.vin (B := 8) hm (by decide) (by with_reducible assumption) (by decide) | exact LU.vin (B := 4) hm (by decide) (by with_reducible assumption) (by decide) | exact LU.vin (B := 16) hm (by decide) (by with_reducible assumption) (by decide) | exact vp_in_nI (n := 0) (by decide) (by decide) | with_reducible exact gdm_in (by with_reducible assumption) (by with_reducible assumption) | with_reducible exact gd_in (by with_reducible assumption) (by with_reducible assumption)) dX6_swing_66 ?_
        refine hc_S (As := [.long (u.2.2.2.1.2.2.2 a0.toNatClampNeg)]) (rest := [.long (mX0_sum_w u.2.2.2.1 a1 a1), .ref (ad 1), .int a0, .ref (ad 0)]) ⟨hx, hb, hml, hown, hts⟩ (ct_X1_opposite l (u.2.2.2.1.2.2.2 a0.toNatClampNeg)) (va_cwS 1 hts gX6_swing_X1_opposite rfl rfl rfl (by decide +kernel) ⟨Nat.le_of_ble_eq_true rfl, Nat.le_of_ble_eq_true rfl⟩) rfl hl.1 rfl (Nat.le_of_ble_eq_true rfl) dX6_swing_67 ⟨Nat.le_of_ble_eq_true rfl, Nat.le_of_ble_eq_true rfl⟩ ?_
        refine hc_V (C := RX0) (ci := 0) (T := TX0) (N := 5) (As := [.long (mX0_sum_w u.2.2.2.1 a1 a1), .long (mX1_opposite (u.2.2.2.1.2.2.2 a0.toNatClampNeg))]) (rest := [.int a0, .ref (ad 0)]) ⟨hx, hb, hml, hown, hts⟩ (ct_X0_sum_w l dC dI (ad 1) (ad 5) (ca 5) u.2.2.2.1 (mX0_sum_w u.2.2.2.1 a1 a1) (mX1_opposite (u.2.2.2.1.2.2.2 a0.toNatClampNeg)) (by first | with_reducible assumption | with_reducible exact pt_in (by with_reducible assumption) | with_reducible exact hd1 (by with_reducible assumption) (by with_reducible assumption) | with_reducible exact hd2 (pt_in (by with_reducible assumption)) (by with_reducible assumption) (by with_reducible assumption))) (cwV 2 hts gX6_swing_X0_sum rfl rfl rfl (by decide +kernel) ⟨Nat.le_of_ble_eq_true rfl, Nat.le_of_ble_eq_true rfl⟩) (hw_part hP [1, 5] rfl) (hK.sub [1] rfl) hNW rfl rfl rfl hl.1 rfl (Nat.le_of_ble_eq_true rfl) dX6_swing_70 ⟨Nat.le_of_ble_eq_true rfl, Nat.le_of_ble_eq_true rfl⟩ ?_
        refine lv_aload_n hx hb dX6_swing_73 rfl (lv_at hl 1 rfl) ?_
        refine va_get (D := (dC, dI)) (ci := 2) (v := .ref (ad 2)) (C := RX6) (T := TX6) (N := 7) hx hb hts hin6 hown hK hP 0 rfl rfl 1 (by decide) (hts (.fieldLink RX6 18 "SnapTable" "heights" "LSnapTable$Axis;") (by decide +kernel)) (fun _ h9 => h9) rfl dX6_swing_74 ?_
        refine va_getN (D := (dC, dI)) (ci := 0) (v := .ref (ad 6)) (C := RX0) (T := TX0) (N := 5) hx hb hts hin0 hown hK hP 2 rfl rfl 1 (by decide) (va_Nw.use rfl hNW.1) (fun _ h9 => h9) rfl dX6_swing_77 ?_
        refine lv_iload_n hx hb dX6_swing_80 rfl (lv_at hl 2 rfl) ?_
        refine va_lald hx hb hK hP 6 2 rfl rfl (by first | with_reducible assumption | with_reducible exact pt_in (by with_reducible assumption) | with_reducible exact ptm_in (by with_reducible assumption) | exact LU.vin (B := 8) hm (by decide) (by with_reducible assumption) (by decide) | exact LU.vin (B := 4) hm (by decide) (by with_reducible assumption) (by decide) | exact LU.vin (B := 16) hm (by decide) (by with_reducible assumption) (by decide) | exact vp_in_nI (n := 0) (by decide) (by decide) | with_reducible exact gdm_in (by with_reducible assumption) (by with_reducible assumption) | with_reducible exact gd_in (by with_reducible assumption) (by with_reducible assumption)) dX6_swing_81 ?_
        refine hc_S (As := [.long (u.2.2.2.2.1.2.2.2 a0.toNatClampNeg)]) (rest := [.long (mX0_sum_w u.2.2.2.1 (mX0_sum_w u.2.2.2.1 a1 a1) (mX1_opposite (u.2.2.2.1.2.2.2 a0.toNatClampNeg))), .int a0, .ref (ad 0)]) ⟨hx, hb, hml, hown, hts⟩ (ct_X1_opposite l (u.2.2.2.2.1.2.2.2 a0.toNatClampNeg)) (va_cwS 1 hts gX6_swing_X1_opposite rfl rfl rfl (by decide +kernel) ⟨Nat.le_of_ble_eq_true rfl, Nat.le_of_ble_eq_true rfl⟩) rfl hl.1 rfl (Nat.le_of_ble_eq_true rfl) dX6_swing_82 ⟨Nat.le_of_ble_eq_true rfl, Nat.le_of_ble_eq_true rfl⟩ ?_
        refine hc_M (C := RX6) (ci := 2) (T := TX6) (N := 7) (As := [.int a0, .long (mX0_sum_w u.2.2.2.1 (mX0_sum_w u.2.2.2.1 a1 a1) (mX1_opposite (u.2.2.2.1.2.2.2 a0.toNatClampNeg))), .long (mX1_opposite (u.2.2.2.2.1.2.2.2 a0.toNatClampNeg))]) (rest := []) ⟨hx, hb, hml, hown, hts⟩ (ct_X6_putWalled l dC dI ad ca _ u a0 (mX0_sum_w u.2.2.2.1 (mX0_sum_w u.2.2.2.1 a1 a1) (mX1_opposite (u.2.2.2.1.2.2.2 a0.toNatClampNeg))) (mX1_opposite (u.2.2.2.2.1.2.2.2 a0.toNatClampNeg)) (by first | with_reducible assumption | with_reducible exact pt_in (by with_reducible assumption) | with_reducible exact hd1 (by with_reducible assumption) (by with_reducible assumption) | with_reducible exact hd2 (pt_in (by with_reducible assumption)) (by with_reducible assumption) (by with_reducible assumption)) (by first | with_reducible assumption | with_reducible exact pt_in (by with_reducible assumption) | with_reducible exact hd1 (by with_reducible assumption) (by with_reducible assumption) | with_reducible exact hd2 (pt_in (by with_reducible assumption)) (by with_reducible assumption) (by with_reducible assumption))) (cwV 3 hts gX6_swing_X6_putWalled rfl rfl rfl (by decide +kernel) ⟨Nat.le_of_ble_eq_true rfl, Nat.le_of_ble_eq_true rfl⟩) hP hD (hK.sub [0, 1, 2, 3, 4, 5] rfl) hNW hS hA [0, 1, 2, 3, 4, 5, 6, 7, 8, 9] [] rfl (wr := []) rfl (by decide) (by decide) (by decide) rfl rfl rfl hl.1 rfl (Nat.le_of_ble_eq_true rfl) dX6_swing_85 ⟨Nat.le_of_ble_eq_true rfl, Nat.le_of_ble_eq_true rfl⟩ (fun H locs hP hD hS => ?_)
        generalize hz_4 : mX6_putWalled u a0 (mX0_sum_w u.2.2.2.1 (mX0_sum_w u.2.2.2.1 a1 a1) (mX1_opposite (u.2.2.2.1.2.2.2 a0.toNatClampNeg))) (mX1_opposite (u.2.2.2.2.1.2.2.2 a0.toNatClampNeg)) = z_4 at hP hD ⊢
        have hP : va_P (dC, dI) vwCl (WT ad ca z_4.2) H := hP.sub [0, 1, 2, 3, 4, 5, 6, 7, 8, 9] rfl
        have hD : va_D (va_A (WT ad ca u) s.heap.size) (WT ad ca z_4.2) := hD.sub [0, 1, 2, 3, 4, 5, 6, 7, 8, 9] (by decide) rfl
        refine W.eq (g2 := F0 m 88 ls (.int z_4.1 :: [])) rfl ?_
        have he : mX6_swing u a0 a1 = (z_4.1, z_4.2) := by rw [mX6_swing, if_neg c_1, if_pos c_2, if_pos c_3, hz_4]
        exact rM_i hx hb hr hlocks hP hD hS (by rw [he]) (by rw [he]) dX6_swing_88
      · refine lv_aload_n hx hb dX6_swing_33 rfl (lv_at hl 0 rfl) ?_
        refine lv_iconst (v := (3 : Int32)) hx hb dX6_swing_34 (by decide) ?_
        refine hc_M (C := RX6) (ci := 2) (T := TX6) (N := 7) (As := [.int (3 : Int32)]) (rest := []) ⟨hx, hb, hml, hown, hts⟩ (ct_X6_refuse l dC dI ad ca _ u (3 : Int32)) (cwV 1 hts gX6_swing_X6_refuse rfl rfl rfl (by decide +kernel) ⟨Nat.le_of_ble_eq_true rfl, Nat.le_of_ble_eq_true rfl⟩) hP hD (hK.sub [0, 1, 2, 3, 4, 5] rfl) hNW hS hA [0, 1, 2, 3, 4, 5, 6, 7, 8, 9] [] rfl (wr := []) rfl (by decide) (by decide) (by decide) rfl rfl rfl hl.1 rfl (Nat.le_of_ble_eq_true rfl) dX6_swing_35 ⟨Nat.le_of_ble_eq_true rfl, Nat.le_of_ble_eq_true rfl⟩ (fun H locs hP hD hS => ?_)
        generalize hz_5 : mX6_refuse u (3 : Int32) = z_5 at hP hD ⊢
        have hP : va_P (dC, dI) vwCl (WT ad ca z_5.2) H := hP.sub [0, 1, 2, 3, 4, 5, 6, 7, 8, 9] rfl
        have hD : va_D (va_A (WT ad ca u) s.heap.size) (WT ad ca z_5.2) := hD.sub [0, 1, 2, 3, 4, 5, 6, 7, 8, 9] (by decide) rfl
        refine W.eq (g2 := F0 m 38 ls (.int z_5.1 :: [])) rfl ?_
        have he : mX6_swing u a0 a1 = (z_5.1, z_5.2) := by rw [mX6_swing, if_neg c_1, if_pos c_2, if_neg c_3, hz_5]
        exact rM_i hx hb hr hlocks hP hD hS (by rw [he]) (by rw [he]) dX6_swing_38
    · refine lv_aload_n hx hb dX6_swing_20 rfl (lv_at hl 0 rfl) ?_
      refine lv_iconst (v := (2 : Int32)) hx hb dX6_swing_21 (by decide) ?_
      refine hc_M (C := RX6) (ci := 2) (T := TX6) (N := 7) (As := [.int (2 : Int32)]) (rest := []) ⟨hx, hb, hml, hown, hts⟩ (ct_X6_refuse l dC dI ad ca _ u (2 : Int32)) (cwV 1 hts gX6_swing_X6_refuse rfl rfl rfl (by decide +kernel) ⟨Nat.le_of_ble_eq_true rfl, Nat.le_of_ble_eq_true rfl⟩) hP hD (hK.sub [0, 1, 2, 3, 4, 5] rfl) hNW hS hA [0, 1, 2, 3, 4, 5, 6, 7, 8, 9] [] rfl (wr := []) rfl (by decide) (by decide) (by decide) rfl rfl rfl hl.1 rfl (Nat.le_of_ble_eq_true rfl) dX6_swing_22 ⟨Nat.le_of_ble_eq_true rfl, Nat.le_of_ble_eq_true rfl⟩ (fun H locs hP hD hS => ?_)
      generalize hz_6 : mX6_refuse u (2 : Int32) = z_6 at hP hD ⊢
      have hP : va_P (dC, dI) vwCl (WT ad ca z_6.2) H := hP.sub [0, 1, 2, 3, 4, 5, 6, 7, 8, 9] rfl
      have hD : va_D (va_A (WT ad ca u) s.heap.size) (WT ad ca z_6.2) := hD.sub [0, 1, 2, 3, 4, 5, 6, 7, 8, 9] (by decide) rfl
      refine W.eq (g2 := F0 m 25 ls (.int z_6.1 :: [])) rfl ?_
      have he : mX6_swing u a0 a1 = (z_6.1, z_6.2) := by rw [mX6_swing, if_neg c_1, if_neg c_2, hz_6]
      exact rM_i hx hb hr hlocks hP hD hS (by rw [he]) (by rw [he]) dX6_swing_25
  · refine lv_aload_n hx hb dX6_swing_7 rfl (lv_at hl 0 rfl) ?_
    refine lv_iconst (v := (1 : Int32)) hx hb dX6_swing_8 (by decide) ?_
    refine hc_M (C := RX6) (ci := 2) (T := TX6) (N := 7) (As := [.int (1 : Int32)]) (rest := []) ⟨hx, hb, hml, hown, hts⟩ (ct_X6_refuse l dC dI ad ca _ u (1 : Int32)) (cwV 1 hts gX6_swing_X6_refuse rfl rfl rfl (by decide +kernel) ⟨Nat.le_of_ble_eq_true rfl, Nat.le_of_ble_eq_true rfl⟩) hP hD (hK.sub [0, 1, 2, 3, 4, 5] rfl) hNW hS hA [0, 1, 2, 3, 4, 5, 6, 7, 8, 9] [] rfl (wr := []) rfl (by decide) (by decide) (by decide) rfl rfl rfl hl.1 rfl (Nat.le_of_ble_eq_true rfl) dX6_swing_9 ⟨Nat.le_of_ble_eq_true rfl, Nat.le_of_ble_eq_true rfl⟩ (fun H locs hP hD hS => ?_)
    generalize hz_7 : mX6_refuse u (1 : Int32) = z_7 at hP hD ⊢
    have hP : va_P (dC, dI) vwCl (WT ad ca z_7.2) H := hP.sub [0, 1, 2, 3, 4, 5, 6, 7, 8, 9] rfl
    have hD : va_D (va_A (WT ad ca u) s.heap.size) (WT ad ca z_7.2) := hD.sub [0, 1, 2, 3, 4, 5, 6, 7, 8, 9] (by decide) rfl
    refine W.eq (g2 := F0 m 12 ls (.int z_7.1 :: [])) rfl ?_
    have he : mX6_swing u a0 a1 = (z_7.1, z_7.2) := by rw [mX6_swing, if_pos c_1, hz_7]
    exact rM_i hx hb hr hlocks hP hD hS (by rw [he]) (by rw [he]) dX6_swing_12
