/-- nothing here is NONE -/
theorem c52_fin : FP.Core.DFin 4372995238176751616 := by rw [FP.Core.fin_bits]; decide
theorem c1_fin : FP.Core.DFin FP.dconst1 := by rw [FP.Core.fin_bits]; decide
theorem cp52_fin : FP.Core.DFin 4841369599423283200 := by rw [FP.Core.fin_bits]; decide
theorem cm149_fin : FP.Core.DFin 3936146074321813504 := by rw [FP.Core.fin_bits]; decide
theorem cp149_fin : FP.Core.DFin 5278218763278221312 ∧ ¬ FP.Core.DZero 5278218763278221312 := by rw [FP.Core.fin_bits, FP.Core.zero_bits2]; decide
theorem cp52_nz : ¬ FP.Core.DZero 4841369599423283200 := by rw [FP.Core.zero_bits2]; decide
theorem fr_nn (x : Int64) : FP.dIsNaN (FP.dmul (FP.l2d x) 4372995238176751616) = false := FP.Core.dmul_out (FP.Core.l2d_fin x) c52_fin
theorem fr1_nn (x : Int64) : FP.dIsNaN (FP.dadd FP.dconst1 (FP.dmul (FP.l2d x) 4372995238176751616)) = false := FP.Core.dadd_out' c1_fin (fr_nn x)
theorem scaled_nnL (a0 : UInt64) (a1 : Int32) : ∀ (n : Nat) (r : Int32) (v : UInt64) (i : Int32), FP.dIsNaN v = false → FP.dIsNaN (mX2_scaled_L a0 a1 n r v i) = false := by
  intro n
  induction n with
  | zero => intro r v i _; rw [mX2_scaled_L]; decide +kernel
  | succ n ih =>
    intro r v i h
    rw [mX2_scaled_L]
    repeat' split
    · exact h
    · exact ih _ _ _ h
    · exact ih _ _ _ (FP.Core.dmul_out' h (leap_ok _).1 (leap_ok _).2)
    · exact ih _ _ _ (FP.Core.ddiv_out h (leap_ok _).1 (leap_ok _).2)
theorem scaled_nn {a0 : UInt64} {a1 : Int32} (h : FP.dIsNaN a0 = false) : FP.dIsNaN (mX2_scaled a0 a1) = false := by
  rw [mX2_scaled]
  split
  · exact scaled_nnL _ _ _ _ _ _ h
  · exact scaled_nnL _ _ _ _ _ _ h

def mX1_valueOfSize (a0 : Int64) : UInt64 := (if (mX1_isInfinite a0) = 0 then (if (((((a0 &&& (9223372036854775807 : Int64))).toUInt64 >>> ((52 : Int32).toInt64.toUInt64 &&& Int64.toUInt64 63)).toInt64).toInt32) = 0 then (mX2_scaled (FP.dmul (FP.l2d (a0 &&& (4503599627370495 : Int64))) (4372995238176751616 : UInt64)) (-1022 : Int32)) else (mX2_scaled (FP.dadd FP.dconst1 (FP.dmul (FP.l2d (a0 &&& (4503599627370495 : Int64))) (4372995238176751616 : UInt64))) ((((((a0 &&& (9223372036854775807 : Int64))).toUInt64 >>> ((52 : Int32).toInt64.toUInt64 &&& Int64.toUInt64 63)).toInt64).toInt32) - (1023 : Int32)))) else (mX2_beyondAll))
set_option maxHeartbeats 4000000 in
set_option maxRecDepth 100000 in
theorem ct_X1_valueOfSize (l : Launch) (a0 : Int64) : Met l yX1_valueOfSize wsX1_valueOfSize { frames := 2, cells := 0, slots := 0, locals := 46 } (fun v _ => v = ([.long a0] : List Value).toArray) (k2_QcV (.double (mX1_valueOfSize a0))) 0 0 (fun _ => False) := by
  refine Met.ofW (cc := cX1_valueOfSize) (maxL := 5) (ret := (some .double)) (by decide) rfl ?_
  intro p e s m args below meth c s₁ B hml hv
  subst hv
  have hx := B.exec
  have hb := B.bytes
  have hr := B.returns
  have hts := atoms_spec (ws := wsX1_valueOfSize) B.pre
  have hown : s.vm.findClass RX1 = some m.cls := findClass_of_methodNamed B.named
  have hlocks := B.notSynchronized
  have hl := lv_entry ([.long a0]) (n := 5) (Nat.le_of_ble_eq_true rfl)
  rw [lg_entry_eq]
  generalize (lg_sl ([.long a0]) ++ List.replicate (5 - (lg_sl ([.long a0])).length) Slot.unset).toArray = ls at hl ⊢
  have hl : lv_has ls 5 [(0, .long a0)] := hl
  refine lv_lload_n hx hb dX1_valueOfSize_0 rfl (lv_at hl 0 rfl) ?_
  refine hc_S (As := [.long a0]) (rest := []) ⟨hx, hb, hml, hown, hts⟩ (ct_X1_isInfinite l a0) (va_cwS 1 hts gX1_valueOfSize_X1_isInfinite rfl rfl rfl (by decide +kernel) ⟨Nat.le_of_ble_eq_true rfl, Nat.le_of_ble_eq_true rfl⟩) rfl hl.1 rfl (Nat.le_of_ble_eq_true rfl) dX1_valueOfSize_1 ⟨Nat.le_of_ble_eq_true rfl, Nat.le_of_ble_eq_true rfl⟩ ?_
  refine lv_if_eq (tgt := 11) hx hb dX1_valueOfSize_4 (by decide) (fun c_1 => ?_) (fun c_1 => ?_)
  · refine lv_lload_n hx hb dX1_valueOfSize_11 rfl (lv_at hl 0 rfl) ?_
    refine lv_ldc2 (v := (9223372036854775807 : Int64)) hx hb hown (hts (.constantLong RX1 9 (9223372036854775807)) (by decide +kernel)) dX1_valueOfSize_12 ?_
    refine lv_land hx hb dX1_valueOfSize_15 ?_
    refine lv_bipush (v := (52 : Int32)) hx hb dX1_valueOfSize_16 (by decide) ?_
    refine lv_lushr hx hb dX1_valueOfSize_18 rfl ?_
    refine lv_l2i hx hb dX1_valueOfSize_19 rfl ?_
    refine lv_istore_n (lv' := [(2, .int (((((a0 &&& (9223372036854775807 : Int64))).toUInt64 >>> ((52 : Int32).toInt64.toUInt64 &&& Int64.toUInt64 63)).toInt64).toInt32)), (0, .long a0)]) hx hb dX1_valueOfSize_20 rfl hl (by decide) rfl (fun ls hl => ?_)
    refine lv_lload_n hx hb dX1_valueOfSize_21 rfl (lv_at hl 1 rfl) ?_
    refine lv_ldc2 (v := (4503599627370495 : Int64)) hx hb hown (hts (.constantLong RX1 45 (4503599627370495)) (by decide +kernel)) dX1_valueOfSize_22 ?_
    refine lv_land hx hb dX1_valueOfSize_25 ?_
    refine lv_l2d hx hb dX1_valueOfSize_26 ?_
    refine lv_ldc2d (v := (4372995238176751616 : UInt64)) hx hb hown (hts (.constantDouble RX1 47 (4372995238176751616)) (by decide +kernel)) dX1_valueOfSize_27 ?_
    refine lv_dmul hx hb dX1_valueOfSize_30 (nn64 (fr_nn _)) ?_
    refine lv_dstore_n (lv' := [(3, .double (FP.dmul (FP.l2d (a0 &&& (4503599627370495 : Int64))) (4372995238176751616 : UInt64))), (2, .int (((((a0 &&& (9223372036854775807 : Int64))).toUInt64 >>> ((52 : Int32).toInt64.toUInt64 &&& Int64.toUInt64 63)).toInt64).toInt32)), (0, .long a0)]) hx hb dX1_valueOfSize_31 rfl hl (by decide) rfl (fun ls hl => ?_)
    refine lv_iload_n hx hb dX1_valueOfSize_32 rfl (lv_at hl 1 rfl) ?_
    refine lv_if_ne (tgt := 46) hx hb dX1_valueOfSize_33 (by decide) (fun c_2 => ?_) (fun c_2 => ?_)
    · refine lv_dconst1 hx hb dX1_valueOfSize_46 ?_
      refine lv_dload_n hx hb dX1_valueOfSize_47 rfl (lv_at hl 0 rfl) ?_
      refine lv_dadd hx hb dX1_valueOfSize_48 (nn64 (fr1_nn _)) ?_
      refine lv_iload_n hx hb dX1_valueOfSize_49 rfl (lv_at hl 1 rfl) ?_
      refine lv_sipush (v := (1023 : Int32)) hx hb dX1_valueOfSize_50 (by decide) ?_
      refine lv_isub hx hb dX1_valueOfSize_53 ?_
      refine hc_S (As := [.double (FP.dadd FP.dconst1 (FP.dmul (FP.l2d (a0 &&& (4503599627370495 : Int64))) (4372995238176751616 : UInt64))), .int ((((((a0 &&& (9223372036854775807 : Int64))).toUInt64 >>> ((52 : Int32).toInt64.toUInt64 &&& Int64.toUInt64 63)).toInt64).toInt32) - (1023 : Int32))]) (rest := []) ⟨hx, hb, hml, hown, hts⟩ (ct_X2_scaled l (FP.dadd FP.dconst1 (FP.dmul (FP.l2d (a0 &&& (4503599627370495 : Int64))) (4372995238176751616 : UInt64))) ((((((a0 &&& (9223372036854775807 : Int64))).toUInt64 >>> ((52 : Int32).toInt64.toUInt64 &&& Int64.toUInt64 63)).toInt64).toInt32) - (1023 : Int32)) (fr1_nn _)) (va_cwS 2 hts gX1_valueOfSize_X2_scaled rfl rfl rfl (by decide +kernel) ⟨Nat.le_of_ble_eq_true rfl, Nat.le_of_ble_eq_true rfl⟩) rfl hl.1 rfl (Nat.le_of_ble_eq_true rfl) dX1_valueOfSize_54 ⟨Nat.le_of_ble_eq_true rfl, Nat.le_of_ble_eq_true rfl⟩ ?_
      exact W.dret (v := (mX2_scaled (FP.dadd FP.dconst1 (FP.dmul (FP.l2d (a0 &&& (4503599627370495 : Int64))) (4372995238176751616 : UInt64))) ((((((a0 &&& (9223372036854775807 : Int64))).toUInt64 >>> ((52 : Int32).toInt64.toUInt64 &&& Int64.toUInt64 63)).toInt64).toInt32) - (1023 : Int32)))) hx hb hr (fun t ht _ => ⟨by rw [mX1_valueOfSize, if_pos c_1, if_neg c_2], ht⟩) (fun _ h => by cases h) dX1_valueOfSize_57
    · refine lv_dload_n hx hb dX1_valueOfSize_36 rfl (lv_at hl 0 rfl) ?_
      refine lv_sipush (v := (-1022 : Int32)) hx hb dX1_valueOfSize_37 (by decide) ?_
      refine hc_S (As := [.double (FP.dmul (FP.l2d (a0 &&& (4503599627370495 : Int64))) (4372995238176751616 : UInt64)), .int (-1022 : Int32)]) (rest := []) ⟨hx, hb, hml, hown, hts⟩ (ct_X2_scaled l (FP.dmul (FP.l2d (a0 &&& (4503599627370495 : Int64))) (4372995238176751616 : UInt64)) (-1022 : Int32) (fr_nn _)) (va_cwS 2 hts gX1_valueOfSize_X2_scaled rfl rfl rfl (by decide +kernel) ⟨Nat.le_of_ble_eq_true rfl, Nat.le_of_ble_eq_true rfl⟩) rfl hl.1 rfl (Nat.le_of_ble_eq_true rfl) dX1_valueOfSize_40 ⟨Nat.le_of_ble_eq_true rfl, Nat.le_of_ble_eq_true rfl⟩ ?_
      refine lv_goto (tgt := 57) hx hb dX1_valueOfSize_43 (by decide) ?_
      exact W.dret (v := (mX2_scaled (FP.dmul (FP.l2d (a0 &&& (4503599627370495 : Int64))) (4372995238176751616 : UInt64)) (-1022 : Int32))) hx hb hr (fun t ht _ => ⟨by rw [mX1_valueOfSize, if_pos c_1, if_pos c_2], ht⟩) (fun _ h => by cases h) dX1_valueOfSize_57
  · refine hc_S (As := []) (rest := []) ⟨hx, hb, hml, hown, hts⟩ (ct_X2_beyondAll l) (va_cwS 0 hts gX1_valueOfSize_X2_beyondAll rfl rfl rfl (by decide +kernel) ⟨Nat.le_of_ble_eq_true rfl, Nat.le_of_ble_eq_true rfl⟩) rfl hl.1 rfl (Nat.le_of_ble_eq_true rfl) dX1_valueOfSize_7 ⟨Nat.le_of_ble_eq_true rfl, Nat.le_of_ble_eq_true rfl⟩ ?_
    exact W.dret (v := (mX2_beyondAll)) hx hb hr (fun t ht _ => ⟨by rw [mX1_valueOfSize, if_neg c_1], ht⟩) (fun _ h => by cases h) dX1_valueOfSize_10

theorem vos_nn (x : Int64) : FP.dIsNaN (mX1_valueOfSize x) = false := by
  rw [mX1_valueOfSize]
  repeat' split
  · exact scaled_nn (fr_nn _)
  · exact scaled_nn (fr1_nn _)
  · decide +kernel

def mX1_value (a0 : Int64) : UInt64 := (if 0 ≤ (lg_cmp a0 (0 : Int64)) then (mX1_valueOfSize a0) else (FP.dneg (mX1_valueOfSize a0)))
set_option maxHeartbeats 4000000 in
set_option maxRecDepth 100000 in
theorem ct_X1_value (l : Launch) (a0 : Int64) : Met l yX1_value wsX1_value { frames := 3, cells := 0, slots := 0, locals := 70 } (fun v _ => v = ([.long a0] : List Value).toArray) (k2_QcV (.double (mX1_value a0))) 0 0 (fun _ => False) := by
  refine Met.ofW (cc := cX1_value) (maxL := 4) (ret := (some .double)) (by decide) rfl ?_
  intro p e s m args below meth c s₁ B hml hv
  subst hv
  have hx := B.exec
  have hb := B.bytes
  have hr := B.returns
  have hts := atoms_spec (ws := wsX1_value) B.pre
  have hown : s.vm.findClass RX1 = some m.cls := findClass_of_methodNamed B.named
  have hlocks := B.notSynchronized
  have hl := lv_entry ([.long a0]) (n := 4) (Nat.le_of_ble_eq_true rfl)
  rw [lg_entry_eq]
  generalize (lg_sl ([.long a0]) ++ List.replicate (4 - (lg_sl ([.long a0])).length) Slot.unset).toArray = ls at hl ⊢
  have hl : lv_has ls 4 [(0, .long a0)] := hl
  refine lv_lload_n hx hb dX1_value_0 rfl (lv_at hl 0 rfl) ?_
  refine hc_S (As := [.long a0]) (rest := []) ⟨hx, hb, hml, hown, hts⟩ (ct_X1_valueOfSize l a0) (va_cwS 1 hts gX1_value_X1_valueOfSize rfl rfl rfl (by decide +kernel) ⟨Nat.le_of_ble_eq_true rfl, Nat.le_of_ble_eq_true rfl⟩) rfl hl.1 rfl (Nat.le_of_ble_eq_true rfl) dX1_value_1 ⟨Nat.le_of_ble_eq_true rfl, Nat.le_of_ble_eq_true rfl⟩ ?_
  refine lv_dstore_n (lv' := [(2, .double (mX1_valueOfSize a0)), (0, .long a0)]) hx hb dX1_value_4 rfl hl (by decide) rfl (fun ls hl => ?_)
  refine lv_lload_n hx hb dX1_value_5 rfl (lv_at hl 1 rfl) ?_
  refine lv_lconst (v := (0 : Int64)) hx hb dX1_value_6 (by decide) ?_
  refine W.lcmp hx hb dX1_value_7 ?_
  refine lv_if_ge (tgt := 16) hx hb dX1_value_8 (by decide) (fun c_1 => ?_) (fun c_1 => ?_)
  · refine lv_dload_n hx hb dX1_value_16 rfl (lv_at hl 0 rfl) ?_
    exact W.dret (v := (mX1_valueOfSize a0)) hx hb hr (fun t ht _ => ⟨by rw [mX1_value, if_pos c_1], ht⟩) (fun _ h => by cases h) dX1_value_17
  · refine lv_dload_n hx hb dX1_value_11 rfl (lv_at hl 0 rfl) ?_
    refine lv_dneg hx hb dX1_value_12 ?_
    refine lv_goto (tgt := 17) hx hb dX1_value_13 (by decide) ?_
    exact W.dret (v := (FP.dneg (mX1_valueOfSize a0))) hx hb hr (fun t ht _ => ⟨by rw [mX1_value, if_neg c_1], ht⟩) (fun _ h => by cases h) dX1_value_17

def mX1_ofSize (a0 : UInt64) : Int64 := (if (Op.cmpValue (FP.dcmp a0 (mX2_beyondAll)) .l) = 0 then (9218868437227405312 : Int64) else (if (Op.cmpValue (FP.dcmp a0 FP.dconst1) .l) < 0 then (((((mX2_floorBelowOne a0 (-1022 : Int32)) - (-1022 : Int32)).toInt64) <<< ((52 : Int32).toInt64 &&& 63)) + (FP.d2l (FP.dmul (mX2_scaled a0 (-(mX2_floorBelowOne a0 (-1022 : Int32)))) (4841369599423283200 : UInt64)))) else (((((mX2_floorFromOne a0) - (-1022 : Int32)).toInt64) <<< ((52 : Int32).toInt64 &&& 63)) + (FP.d2l (FP.dmul (mX2_scaled a0 (-(mX2_floorFromOne a0))) (4841369599423283200 : UInt64))))))
set_option maxHeartbeats 4000000 in
set_option maxRecDepth 100000 in
theorem ct_X1_ofSize (l : Launch) (a0 : UInt64) (hn0 : FP.dIsNaN a0 = false) : Met l yX1_ofSize wsX1_ofSize { frames := 2, cells := 0, slots := 0, locals := 46 } (fun v _ => v = ([.double a0] : List Value).toArray) (k2_QcV (.long (mX1_ofSize a0))) 0 0 (fun _ => False) := by
  refine Met.ofW (cc := cX1_ofSize) (maxL := 5) (ret := (some .long)) (by decide) rfl ?_
  intro p e s m args below meth c s₁ B hml hv
  subst hv
  have hx := B.exec
  have hb := B.bytes
  have hr := B.returns
  have hts := atoms_spec (ws := wsX1_ofSize) B.pre
  have hown : s.vm.findClass RX1 = some m.cls := findClass_of_methodNamed B.named
  have hlocks := B.notSynchronized
  have hl := lv_entry ([.double a0]) (n := 5) (Nat.le_of_ble_eq_true rfl)
  rw [lg_entry_eq]
  generalize (lg_sl ([.double a0]) ++ List.replicate (5 - (lg_sl ([.double a0])).length) Slot.unset).toArray = ls at hl ⊢
  have hl : lv_has ls 5 [(0, .double a0)] := hl
  refine lv_dload_n hx hb dX1_ofSize_0 rfl (lv_at hl 0 rfl) ?_
  refine hc_S (As := []) (rest := [.double a0]) ⟨hx, hb, hml, hown, hts⟩ (ct_X2_beyondAll l) (va_cwS 0 hts gX1_ofSize_X2_beyondAll rfl rfl rfl (by decide +kernel) ⟨Nat.le_of_ble_eq_true rfl, Nat.le_of_ble_eq_true rfl⟩) rfl hl.1 rfl (Nat.le_of_ble_eq_true rfl) dX1_ofSize_1 ⟨Nat.le_of_ble_eq_true rfl, Nat.le_of_ble_eq_true rfl⟩ ?_
  refine lv_dcmp hx hb dX1_ofSize_4 ?_
  refine lv_if_ne (tgt := 12) hx hb dX1_ofSize_5 (by decide) (fun c_1 => ?_) (fun c_1 => ?_)
  · refine lv_dload_n hx hb dX1_ofSize_12 rfl (lv_at hl 0 rfl) ?_
    refine lv_dconst1 hx hb dX1_ofSize_13 ?_
    refine lv_dcmp hx hb dX1_ofSize_14 ?_
    refine lv_if_lt (tgt := 25) hx hb dX1_ofSize_15 (by decide) (fun c_2 => ?_) (fun c_2 => ?_)
    · refine lv_dload_n hx hb dX1_ofSize_25 rfl (lv_at hl 0 rfl) ?_
      refine lv_sipush (v := (-1022 : Int32)) hx hb dX1_ofSize_26 (by decide) ?_
      refine hc_S (As := [.double a0, .int (-1022 : Int32)]) (rest := []) ⟨hx, hb, hml, hown, hts⟩ (ct_X2_floorBelowOne l a0 (-1022 : Int32) hn0) (va_cwS 2 hts gX1_ofSize_X2_floorBelowOne rfl rfl rfl (by decide +kernel) ⟨Nat.le_of_ble_eq_true rfl, Nat.le_of_ble_eq_true rfl⟩) rfl hl.1 rfl (Nat.le_of_ble_eq_true rfl) dX1_ofSize_29 ⟨Nat.le_of_ble_eq_true rfl, Nat.le_of_ble_eq_true rfl⟩ ?_
      refine lv_istore_n (lv' := [(2, .int (mX2_floorBelowOne a0 (-1022 : Int32))), (0, .double a0)]) hx hb dX1_ofSize_32 rfl hl (by decide) rfl (fun ls hl => ?_)
      refine lv_dload_n hx hb dX1_ofSize_33 rfl (lv_at hl 1 rfl) ?_
      refine lv_iload_n hx hb dX1_ofSize_34 rfl (lv_at hl 0 rfl) ?_
      refine lv_ineg hx hb dX1_ofSize_35 ?_
      refine hc_S (As := [.double a0, .int (-(mX2_floorBelowOne a0 (-1022 : Int32)))]) (rest := []) ⟨hx, hb, hml, hown, hts⟩ (ct_X2_scaled l a0 (-(mX2_floorBelowOne a0 (-1022 : Int32))) hn0) (va_cwS 2 hts gX1_ofSize_X2_scaled rfl rfl rfl (by decide +kernel) ⟨Nat.le_of_ble_eq_true rfl, Nat.le_of_ble_eq_true rfl⟩) rfl hl.1 rfl (Nat.le_of_ble_eq_true rfl) dX1_ofSize_36 ⟨Nat.le_of_ble_eq_true rfl, Nat.le_of_ble_eq_true rfl⟩ ?_
      refine lv_ldc2d (v := (4841369599423283200 : UInt64)) hx hb hown (hts (.constantDouble RX1 65 (4841369599423283200)) (by decide +kernel)) dX1_ofSize_39 ?_
      refine lv_dmul hx hb dX1_ofSize_42 (nn64 (FP.Core.dmul_out' (scaled_nn hn0) cp52_fin cp52_nz)) ?_
      refine lv_d2l hx hb dX1_ofSize_43 ?_
      refine lv_lstore_n (lv' := [(3, .long (FP.d2l (FP.dmul (mX2_scaled a0 (-(mX2_floorBelowOne a0 (-1022 : Int32)))) (4841369599423283200 : UInt64)))), (2, .int (mX2_floorBelowOne a0 (-1022 : Int32))), (0, .double a0)]) hx hb dX1_ofSize_44 rfl hl (by decide) rfl (fun ls hl => ?_)
      refine lv_iload_n hx hb dX1_ofSize_45 rfl (lv_at hl 1 rfl) ?_
      refine lv_sipush (v := (-1022 : Int32)) hx hb dX1_ofSize_46 (by decide) ?_
      refine lv_isub hx hb dX1_ofSize_49 ?_
      refine lv_i2l hx hb dX1_ofSize_50 rfl ?_
      refine lv_bipush (v := (52 : Int32)) hx hb dX1_ofSize_51 (by decide) ?_
      refine lv_lshl hx hb dX1_ofSize_53 rfl ?_
      refine lv_lload_n hx hb dX1_ofSize_54 rfl (lv_at hl 0 rfl) ?_
      refine lv_ladd hx hb dX1_ofSize_55 ?_
      exact W.lret (v := (((((mX2_floorBelowOne a0 (-1022 : Int32)) - (-1022 : Int32)).toInt64) <<< ((52 : Int32).toInt64 &&& 63)) + (FP.d2l (FP.dmul (mX2_scaled a0 (-(mX2_floorBelowOne a0 (-1022 : Int32)))) (4841369599423283200 : UInt64))))) hx hb hr (fun t ht _ => ⟨by rw [mX1_ofSize, if_neg c_1, if_pos c_2], ht⟩) (fun _ h => by cases h) dX1_ofSize_56
    · refine lv_dload_n hx hb dX1_ofSize_18 rfl (lv_at hl 0 rfl) ?_
      refine hc_S (As := [.double a0]) (rest := []) ⟨hx, hb, hml, hown, hts⟩ (ct_X2_floorFromOne l a0 hn0) (va_cwS 1 hts gX1_ofSize_X2_floorFromOne rfl rfl rfl (by decide +kernel) ⟨Nat.le_of_ble_eq_true rfl, Nat.le_of_ble_eq_true rfl⟩) rfl hl.1 rfl (Nat.le_of_ble_eq_true rfl) dX1_ofSize_19 ⟨Nat.le_of_ble_eq_true rfl, Nat.le_of_ble_eq_true rfl⟩ ?_
      refine lv_goto (tgt := 32) hx hb dX1_ofSize_22 (by decide) ?_
      refine lv_istore_n (lv' := [(2, .int (mX2_floorFromOne a0)), (0, .double a0)]) hx hb dX1_ofSize_32 rfl hl (by decide) rfl (fun ls hl => ?_)
      refine lv_dload_n hx hb dX1_ofSize_33 rfl (lv_at hl 1 rfl) ?_
      refine lv_iload_n hx hb dX1_ofSize_34 rfl (lv_at hl 0 rfl) ?_
      refine lv_ineg hx hb dX1_ofSize_35 ?_
      refine hc_S (As := [.double a0, .int (-(mX2_floorFromOne a0))]) (rest := []) ⟨hx, hb, hml, hown, hts⟩ (ct_X2_scaled l a0 (-(mX2_floorFromOne a0)) hn0) (va_cwS 2 hts gX1_ofSize_X2_scaled rfl rfl rfl (by decide +kernel) ⟨Nat.le_of_ble_eq_true rfl, Nat.le_of_ble_eq_true rfl⟩) rfl hl.1 rfl (Nat.le_of_ble_eq_true rfl) dX1_ofSize_36 ⟨Nat.le_of_ble_eq_true rfl, Nat.le_of_ble_eq_true rfl⟩ ?_
      refine lv_ldc2d (v := (4841369599423283200 : UInt64)) hx hb hown (hts (.constantDouble RX1 65 (4841369599423283200)) (by decide +kernel)) dX1_ofSize_39 ?_
      refine lv_dmul hx hb dX1_ofSize_42 (nn64 (FP.Core.dmul_out' (scaled_nn hn0) cp52_fin cp52_nz)) ?_
      refine lv_d2l hx hb dX1_ofSize_43 ?_
      refine lv_lstore_n (lv' := [(3, .long (FP.d2l (FP.dmul (mX2_scaled a0 (-(mX2_floorFromOne a0))) (4841369599423283200 : UInt64)))), (2, .int (mX2_floorFromOne a0)), (0, .double a0)]) hx hb dX1_ofSize_44 rfl hl (by decide) rfl (fun ls hl => ?_)
      refine lv_iload_n hx hb dX1_ofSize_45 rfl (lv_at hl 1 rfl) ?_
      refine lv_sipush (v := (-1022 : Int32)) hx hb dX1_ofSize_46 (by decide) ?_
      refine lv_isub hx hb dX1_ofSize_49 ?_
      refine lv_i2l hx hb dX1_ofSize_50 rfl ?_
      refine lv_bipush (v := (52 : Int32)) hx hb dX1_ofSize_51 (by decide) ?_
      refine lv_lshl hx hb dX1_ofSize_53 rfl ?_
      refine lv_lload_n hx hb dX1_ofSize_54 rfl (lv_at hl 0 rfl) ?_
      refine lv_ladd hx hb dX1_ofSize_55 ?_
      exact W.lret (v := (((((mX2_floorFromOne a0) - (-1022 : Int32)).toInt64) <<< ((52 : Int32).toInt64 &&& 63)) + (FP.d2l (FP.dmul (mX2_scaled a0 (-(mX2_floorFromOne a0))) (4841369599423283200 : UInt64))))) hx hb hr (fun t ht _ => ⟨by rw [mX1_ofSize, if_neg c_1, if_neg c_2], ht⟩) (fun _ h => by cases h) dX1_ofSize_56
  · refine lv_ldc2 (v := (9218868437227405312 : Int64)) hx hb hown (hts (.constantLong RX1 11 (9218868437227405312)) (by decide +kernel)) dX1_ofSize_8 ?_
    exact W.lret (v := (9218868437227405312 : Int64)) hx hb hr (fun t ht _ => ⟨by rw [mX1_ofSize, if_pos c_1], ht⟩) (fun _ h => by cases h) dX1_ofSize_11

def mX1_of (a0 : UInt64) : Int64 := (if 0 ≤ (Op.cmpValue (FP.dcmp a0 FP.dconst0) .g) then (mX1_ofSize a0) else ((-9223372036854775808 : Int64) ||| (mX1_ofSize (FP.dneg a0))))
set_option maxHeartbeats 4000000 in
set_option maxRecDepth 100000 in
theorem ct_X1_of (l : Launch) (a0 : UInt64) (hn0 : FP.dIsNaN a0 = false) : Met l yX1_of wsX1_of { frames := 3, cells := 0, slots := 0, locals := 70 } (fun v _ => v = ([.double a0] : List Value).toArray) (k2_QcV (.long (mX1_of a0))) 0 0 (fun _ => False) := by
  refine Met.ofW (cc := cX1_of) (maxL := 2) (ret := (some .long)) (by decide) rfl ?_
  intro p e s m args below meth c s₁ B hml hv
  subst hv
  have hx := B.exec
  have hb := B.bytes
  have hr := B.returns
  have hts := atoms_spec (ws := wsX1_of) B.pre
  have hown : s.vm.findClass RX1 = some m.cls := findClass_of_methodNamed B.named
  have hlocks := B.notSynchronized
  have hl := lv_entry ([.double a0]) (n := 2) (Nat.le_of_ble_eq_true rfl)
  rw [lg_entry_eq]
  generalize (lg_sl ([.double a0]) ++ List.replicate (2 - (lg_sl ([.double a0])).length) Slot.unset).toArray = ls at hl ⊢
  have hl : lv_has ls 2 [(0, .double a0)] := hl
  refine lv_dload_n hx hb dX1_of_0 rfl (lv_at hl 0 rfl) ?_
  refine lv_dconst0 hx hb dX1_of_1 ?_
  refine lv_dcmp hx hb dX1_of_2 ?_
  refine lv_if_ge (tgt := 18) hx hb dX1_of_3 (by decide) (fun c_1 => ?_) (fun c_1 => ?_)
  · refine lv_dload_n hx hb dX1_of_18 rfl (lv_at hl 0 rfl) ?_
    refine hc_S (As := [.double a0]) (rest := []) ⟨hx, hb, hml, hown, hts⟩ (ct_X1_ofSize l a0 hn0) (va_cwS 1 hts gX1_of_X1_ofSize rfl rfl rfl (by decide +kernel) ⟨Nat.le_of_ble_eq_true rfl, Nat.le_of_ble_eq_true rfl⟩) rfl hl.1 rfl (Nat.le_of_ble_eq_true rfl) dX1_of_19 ⟨Nat.le_of_ble_eq_true rfl, Nat.le_of_ble_eq_true rfl⟩ ?_
    exact W.lret (v := (mX1_ofSize a0)) hx hb hr (fun t ht _ => ⟨by rw [mX1_of, if_pos c_1], ht⟩) (fun _ h => by cases h) dX1_of_22
  · refine lv_ldc2 (v := (-9223372036854775808 : Int64)) hx hb hown (hts (.constantLong RX1 13 (-9223372036854775808)) (by decide +kernel)) dX1_of_6 ?_
    refine lv_dload_n hx hb dX1_of_9 rfl (lv_at hl 0 rfl) ?_
    refine lv_dneg hx hb dX1_of_10 ?_
    refine hc_S (As := [.double (FP.dneg a0)]) (rest := [.long (-9223372036854775808 : Int64)]) ⟨hx, hb, hml, hown, hts⟩ (ct_X1_ofSize l (FP.dneg a0) (by rw [Jvm.FP.dneg_nan]; exact hn0)) (va_cwS 1 hts gX1_of_X1_ofSize rfl rfl rfl (by decide +kernel) ⟨Nat.le_of_ble_eq_true rfl, Nat.le_of_ble_eq_true rfl⟩) rfl hl.1 rfl (Nat.le_of_ble_eq_true rfl) dX1_of_11 ⟨Nat.le_of_ble_eq_true rfl, Nat.le_of_ble_eq_true rfl⟩ ?_
    refine lv_lor hx hb dX1_of_14 ?_
    refine lv_goto (tgt := 22) hx hb dX1_of_15 (by decide) ?_
    exact W.lret (v := ((-9223372036854775808 : Int64) ||| (mX1_ofSize (FP.dneg a0)))) hx hb hr (fun t ht _ => ⟨by rw [mX1_of, if_neg c_1], ht⟩) (fun _ h => by cases h) dX1_of_22

def mX3_widened (a0 : Int32) : Int64 := (if 0 ≤ a0 then (if (a0 &&& (2147483647 : Int32)) < (2139095040 : Int32) then (if (8388608 : Int32) ≤ (a0 &&& (2147483647 : Int32)) then ((0 : Int64) ||| ((((a0 &&& (2147483647 : Int32)).toInt64) <<< ((29 : Int32).toInt64 &&& 63)) + (4035225266123964416 : Int64))) else ((0 : Int64) ||| (mX1_ofSize (FP.dmul (FP.i2d (a0 &&& (2147483647 : Int32))) (3936146074321813504 : UInt64))))) else ((0 : Int64) ||| ((9218868437227405312 : Int64) + (((a0 &&& (2147483647 : Int32)) - (2139095040 : Int32)).toInt64)))) else (if (a0 &&& (2147483647 : Int32)) < (2139095040 : Int32) then (if (8388608 : Int32) ≤ (a0 &&& (2147483647 : Int32)) then ((-9223372036854775808 : Int64) ||| ((((a0 &&& (2147483647 : Int32)).toInt64) <<< ((29 : Int32).toInt64 &&& 63)) + (4035225266123964416 : Int64))) else ((-9223372036854775808 : Int64) ||| (mX1_ofSize (FP.dmul (FP.i2d (a0 &&& (2147483647 : Int32))) (3936146074321813504 : UInt64))))) else ((-9223372036854775808 : Int64) ||| ((9218868437227405312 : Int64) + (((a0 &&& (2147483647 : Int32)) - (2139095040 : Int32)).toInt64)))))
set_option maxHeartbeats 4000000 in
set_option maxRecDepth 100000 in
theorem ct_X3_widened (l : Launch) (a0 : Int32) : Met l yX3_widened wsX3_widened { frames := 3, cells := 0, slots := 0, locals := 70 } (fun v _ => v = ([.int a0] : List Value).toArray) (k2_QcV (.long (mX3_widened a0))) 0 0 (fun _ => False) := by
  refine Met.ofW (cc := cX3_widened) (maxL := 4) (ret := (some .long)) (by decide) rfl ?_
  intro p e s m args below meth c s₁ B hml hv
  subst hv
  have hx := B.exec
  have hb := B.bytes
  have hr := B.returns
  have hts := atoms_spec (ws := wsX3_widened) B.pre
  have hown : s.vm.findClass RX3 = some m.cls := findClass_of_methodNamed B.named
  have hlocks := B.notSynchronized
  have hl := lv_entry ([.int a0]) (n := 4) (Nat.le_of_ble_eq_true rfl)
  rw [lg_entry_eq]
  generalize (lg_sl ([.int a0]) ++ List.replicate (4 - (lg_sl ([.int a0])).length) Slot.unset).toArray = ls at hl ⊢
  have hl : lv_has ls 4 [(0, .int a0)] := hl
  refine lv_iload_n hx hb dX3_widened_0 rfl (lv_at hl 0 rfl) ?_
  refine lv_if_ge (tgt := 10) hx hb dX3_widened_1 (by decide) (fun c_1 => ?_) (fun c_1 => ?_)
  · refine lv_lconst (v := (0 : Int64)) hx hb dX3_widened_10 (by decide) ?_
    refine lv_lstore_n (lv' := [(1, .long (0 : Int64)), (0, .int a0)]) hx hb dX3_widened_11 rfl hl (by decide) rfl (fun ls hl => ?_)
    refine lv_iload_n hx hb dX3_widened_12 rfl (lv_at hl 1 rfl) ?_
    refine lv_ldc (v := (2147483647 : Int32)) hx hb hown (hts (.constant RX3 13 (2147483647)) (by decide +kernel)) dX3_widened_13 ?_
    refine lv_iand hx hb dX3_widened_15 ?_
    refine lv_istore_n (lv' := [(3, .int (a0 &&& (2147483647 : Int32))), (1, .long (0 : Int64)), (0, .int a0)]) hx hb dX3_widened_16 rfl hl (by decide) rfl (fun ls hl => ?_)
    refine lv_iload_n hx hb dX3_widened_17 rfl (lv_at hl 0 rfl) ?_
    refine lv_ldc (v := (2139095040 : Int32)) hx hb hown (hts (.constant RX3 14 (2139095040)) (by decide +kernel)) dX3_widened_18 ?_
    refine lv_icmp_lt (tgt := 35) hx hb dX3_widened_20 (by decide) (fun c_2 => ?_) (fun c_2 => ?_)
    · refine lv_iload_n hx hb dX3_widened_35 rfl (lv_at hl 0 rfl) ?_
      refine lv_ldc (v := (8388608 : Int32)) hx hb hown (hts (.constant RX3 17 (8388608)) (by decide +kernel)) dX3_widened_36 ?_
      refine lv_icmp_ge (tgt := 53) hx hb dX3_widened_38 (by decide) (fun c_3 => ?_) (fun c_3 => ?_)
      · refine lv_lload_n hx hb dX3_widened_53 rfl (lv_at hl 1 rfl) ?_
        refine lv_iload_n hx hb dX3_widened_54 rfl (lv_at hl 0 rfl) ?_
        refine lv_i2l hx hb dX3_widened_55 rfl ?_
        refine lv_bipush (v := (29 : Int32)) hx hb dX3_widened_56 (by decide) ?_
        refine lv_lshl hx hb dX3_widened_58 rfl ?_
        refine lv_ldc2 (v := (4035225266123964416 : Int64)) hx hb hown (hts (.constantLong RX3 24 (4035225266123964416)) (by decide +kernel)) dX3_widened_59 ?_
        refine lv_ladd hx hb dX3_widened_62 ?_
        refine lv_lor hx hb dX3_widened_63 ?_
        exact W.lret (v := ((0 : Int64) ||| ((((a0 &&& (2147483647 : Int32)).toInt64) <<< ((29 : Int32).toInt64 &&& 63)) + (4035225266123964416 : Int64)))) hx hb hr (fun t ht _ => ⟨by rw [mX3_widened, if_pos c_1, if_pos c_2, if_pos c_3], ht⟩) (fun _ h => by cases h) dX3_widened_64
      · refine lv_lload_n hx hb dX3_widened_41 rfl (lv_at hl 1 rfl) ?_
        refine lv_iload_n hx hb dX3_widened_42 rfl (lv_at hl 0 rfl) ?_
        refine lv_i2d hx hb dX3_widened_43 ?_
        refine lv_ldc2d (v := (3936146074321813504 : UInt64)) hx hb hown (hts (.constantDouble RX3 18 (3936146074321813504)) (by decide +kernel)) dX3_widened_44 ?_
        refine lv_dmul hx hb dX3_widened_47 (nn64 (FP.Core.dmul_out (FP.Core.i2d_fin _) cm149_fin)) ?_
        refine hc_S (As := [.double (FP.dmul (FP.i2d (a0 &&& (2147483647 : Int32))) (3936146074321813504 : UInt64))]) (rest := [.long (0 : Int64)]) ⟨hx, hb, hml, hown, hts⟩ (ct_X1_ofSize l (FP.dmul (FP.i2d (a0 &&& (2147483647 : Int32))) (3936146074321813504 : UInt64)) (FP.Core.dmul_out (FP.Core.i2d_fin _) cm149_fin)) (va_cwS 1 hts gX3_widened_X1_ofSize rfl rfl rfl (by decide +kernel) ⟨Nat.le_of_ble_eq_true rfl, Nat.le_of_ble_eq_true rfl⟩) rfl hl.1 rfl (Nat.le_of_ble_eq_true rfl) dX3_widened_48 ⟨Nat.le_of_ble_eq_true rfl, Nat.le_of_ble_eq_true rfl⟩ ?_
        refine lv_lor hx hb dX3_widened_51 ?_
        exact W.lret (v := ((0 : Int64) ||| (mX1_ofSize (FP.dmul (FP.i2d (a0 &&& (2147483647 : Int32))) (3936146074321813504 : UInt64))))) hx hb hr (fun t ht _ => ⟨by rw [mX3_widened, if_pos c_1, if_pos c_2, if_neg c_3], ht⟩) (fun _ h => by cases h) dX3_widened_52
    · refine lv_lload_n hx hb dX3_widened_23 rfl (lv_at hl 1 rfl) ?_
      refine lv_ldc2 (v := (9218868437227405312 : Int64)) hx hb hown (hts (.constantLong RX3 15 (9218868437227405312)) (by decide +kernel)) dX3_widened_24 ?_
      refine lv_iload_n hx hb dX3_widened_27 rfl (lv_at hl 0 rfl) ?_
      refine lv_ldc (v := (2139095040 : Int32)) hx hb hown (hts (.constant RX3 14 (2139095040)) (by decide +kernel)) dX3_widened_28 ?_
      refine lv_isub hx hb dX3_widened_30 ?_
      refine lv_i2l hx hb dX3_widened_31 rfl ?_
      refine lv_ladd hx hb dX3_widened_32 ?_
      refine lv_lor hx hb dX3_widened_33 ?_
      exact W.lret (v := ((0 : Int64) ||| ((9218868437227405312 : Int64) + (((a0 &&& (2147483647 : Int32)) - (2139095040 : Int32)).toInt64)))) hx hb hr (fun t ht _ => ⟨by rw [mX3_widened, if_pos c_1, if_neg c_2], ht⟩) (fun _ h => by cases h) dX3_widened_34
  · refine lv_ldc2 (v := (-9223372036854775808 : Int64)) hx hb hown (hts (.constantLong RX3 9 (-9223372036854775808)) (by decide +kernel)) dX3_widened_4 ?_
    refine lv_goto (tgt := 11) hx hb dX3_widened_7 (by decide) ?_
    refine lv_lstore_n (lv' := [(1, .long (-9223372036854775808 : Int64)), (0, .int a0)]) hx hb dX3_widened_11 rfl hl (by decide) rfl (fun ls hl => ?_)
    refine lv_iload_n hx hb dX3_widened_12 rfl (lv_at hl 1 rfl) ?_
    refine lv_ldc (v := (2147483647 : Int32)) hx hb hown (hts (.constant RX3 13 (2147483647)) (by decide +kernel)) dX3_widened_13 ?_
    refine lv_iand hx hb dX3_widened_15 ?_
    refine lv_istore_n (lv' := [(3, .int (a0 &&& (2147483647 : Int32))), (1, .long (-9223372036854775808 : Int64)), (0, .int a0)]) hx hb dX3_widened_16 rfl hl (by decide) rfl (fun ls hl => ?_)
    refine lv_iload_n hx hb dX3_widened_17 rfl (lv_at hl 0 rfl) ?_
    refine lv_ldc (v := (2139095040 : Int32)) hx hb hown (hts (.constant RX3 14 (2139095040)) (by decide +kernel)) dX3_widened_18 ?_
    refine lv_icmp_lt (tgt := 35) hx hb dX3_widened_20 (by decide) (fun c_4 => ?_) (fun c_4 => ?_)
    · refine lv_iload_n hx hb dX3_widened_35 rfl (lv_at hl 0 rfl) ?_
      refine lv_ldc (v := (8388608 : Int32)) hx hb hown (hts (.constant RX3 17 (8388608)) (by decide +kernel)) dX3_widened_36 ?_
      refine lv_icmp_ge (tgt := 53) hx hb dX3_widened_38 (by decide) (fun c_5 => ?_) (fun c_5 => ?_)
      · refine lv_lload_n hx hb dX3_widened_53 rfl (lv_at hl 1 rfl) ?_
        refine lv_iload_n hx hb dX3_widened_54 rfl (lv_at hl 0 rfl) ?_
        refine lv_i2l hx hb dX3_widened_55 rfl ?_
        refine lv_bipush (v := (29 : Int32)) hx hb dX3_widened_56 (by decide) ?_
        refine lv_lshl hx hb dX3_widened_58 rfl ?_
        refine lv_ldc2 (v := (4035225266123964416 : Int64)) hx hb hown (hts (.constantLong RX3 24 (4035225266123964416)) (by decide +kernel)) dX3_widened_59 ?_
        refine lv_ladd hx hb dX3_widened_62 ?_
        refine lv_lor hx hb dX3_widened_63 ?_
        exact W.lret (v := ((-9223372036854775808 : Int64) ||| ((((a0 &&& (2147483647 : Int32)).toInt64) <<< ((29 : Int32).toInt64 &&& 63)) + (4035225266123964416 : Int64)))) hx hb hr (fun t ht _ => ⟨by rw [mX3_widened, if_neg c_1, if_pos c_4, if_pos c_5], ht⟩) (fun _ h => by cases h) dX3_widened_64
      · refine lv_lload_n hx hb dX3_widened_41 rfl (lv_at hl 1 rfl) ?_
        refine lv_iload_n hx hb dX3_widened_42 rfl (lv_at hl 0 rfl) ?_
        refine lv_i2d hx hb dX3_widened_43 ?_
        refine lv_ldc2d (v := (3936146074321813504 : UInt64)) hx hb hown (hts (.constantDouble RX3 18 (3936146074321813504)) (by decide +kernel)) dX3_widened_44 ?_
        refine lv_dmul hx hb dX3_widened_47 (nn64 (FP.Core.dmul_out (FP.Core.i2d_fin _) cm149_fin)) ?_
        refine hc_S (As := [.double (FP.dmul (FP.i2d (a0 &&& (2147483647 : Int32))) (3936146074321813504 : UInt64))]) (rest := [.long (-9223372036854775808 : Int64)]) ⟨hx, hb, hml, hown, hts⟩ (ct_X1_ofSize l (FP.dmul (FP.i2d (a0 &&& (2147483647 : Int32))) (3936146074321813504 : UInt64)) (FP.Core.dmul_out (FP.Core.i2d_fin _) cm149_fin)) (va_cwS 1 hts gX3_widened_X1_ofSize rfl rfl rfl (by decide +kernel) ⟨Nat.le_of_ble_eq_true rfl, Nat.le_of_ble_eq_true rfl⟩) rfl hl.1 rfl (Nat.le_of_ble_eq_true rfl) dX3_widened_48 ⟨Nat.le_of_ble_eq_true rfl, Nat.le_of_ble_eq_true rfl⟩ ?_
        refine lv_lor hx hb dX3_widened_51 ?_
        exact W.lret (v := ((-9223372036854775808 : Int64) ||| (mX1_ofSize (FP.dmul (FP.i2d (a0 &&& (2147483647 : Int32))) (3936146074321813504 : UInt64))))) hx hb hr (fun t ht _ => ⟨by rw [mX3_widened, if_neg c_1, if_pos c_4, if_neg c_5], ht⟩) (fun _ h => by cases h) dX3_widened_52
    · refine lv_lload_n hx hb dX3_widened_23 rfl (lv_at hl 1 rfl) ?_
      refine lv_ldc2 (v := (9218868437227405312 : Int64)) hx hb hown (hts (.constantLong RX3 15 (9218868437227405312)) (by decide +kernel)) dX3_widened_24 ?_
      refine lv_iload_n hx hb dX3_widened_27 rfl (lv_at hl 0 rfl) ?_
      refine lv_ldc (v := (2139095040 : Int32)) hx hb hown (hts (.constant RX3 14 (2139095040)) (by decide +kernel)) dX3_widened_28 ?_
      refine lv_isub hx hb dX3_widened_30 ?_
      refine lv_i2l hx hb dX3_widened_31 rfl ?_
      refine lv_ladd hx hb dX3_widened_32 ?_
      refine lv_lor hx hb dX3_widened_33 ?_
      exact W.lret (v := ((-9223372036854775808 : Int64) ||| ((9218868437227405312 : Int64) + (((a0 &&& (2147483647 : Int32)) - (2139095040 : Int32)).toInt64)))) hx hb hr (fun t ht _ => ⟨by rw [mX3_widened, if_neg c_1, if_neg c_4], ht⟩) (fun _ h => by cases h) dX3_widened_34

def mX3_narrowed (a0 : Int64) : Int32 := (if 0 ≤ (lg_cmp a0 (0 : Int64)) then (if 0 ≤ (lg_cmp (a0 &&& (9223372036854775807 : Int64)) (4039728865751334912 : Int64)) then ((0 : Int32) ||| ((((((a0 &&& (9223372036854775807 : Int64)) - (4035225266123964416 : Int64))).toUInt64 >>> ((29 : Int32).toInt64.toUInt64 &&& Int64.toUInt64 63)).toInt64).toInt32)) else ((0 : Int32) ||| (FP.d2i (FP.dmul (mX1_valueOfSize (a0 &&& (9223372036854775807 : Int64))) (5278218763278221312 : UInt64))))) else (if 0 ≤ (lg_cmp (a0 &&& (9223372036854775807 : Int64)) (4039728865751334912 : Int64)) then ((-2147483648 : Int32) ||| ((((((a0 &&& (9223372036854775807 : Int64)) - (4035225266123964416 : Int64))).toUInt64 >>> ((29 : Int32).toInt64.toUInt64 &&& Int64.toUInt64 63)).toInt64).toInt32)) else ((-2147483648 : Int32) ||| (FP.d2i (FP.dmul (mX1_valueOfSize (a0 &&& (9223372036854775807 : Int64))) (5278218763278221312 : UInt64))))))
set_option maxHeartbeats 4000000 in
set_option maxRecDepth 100000 in
theorem ct_X3_narrowed (l : Launch) (a0 : Int64) : Met l yX3_narrowed wsX3_narrowed { frames := 3, cells := 0, slots := 0, locals := 70 } (fun v _ => v = ([.long a0] : List Value).toArray) (k2_QcV (.int (mX3_narrowed a0))) 0 0 (fun _ => False) := by
  refine Met.ofW (cc := cX3_narrowed) (maxL := 5) (ret := (some .int)) (by decide) rfl ?_
  intro p e s m args below meth c s₁ B hml hv
  subst hv
  have hx := B.exec
  have hb := B.bytes
  have hr := B.returns
  have hts := atoms_spec (ws := wsX3_narrowed) B.pre
  have hown : s.vm.findClass RX3 = some m.cls := findClass_of_methodNamed B.named
  have hlocks := B.notSynchronized
  have hl := lv_entry ([.long a0]) (n := 5) (Nat.le_of_ble_eq_true rfl)
  rw [lg_entry_eq]
  generalize (lg_sl ([.long a0]) ++ List.replicate (5 - (lg_sl ([.long a0])).length) Slot.unset).toArray = ls at hl ⊢
  have hl : lv_has ls 5 [(0, .long a0)] := hl
  refine lv_lload_n hx hb dX3_narrowed_0 rfl (lv_at hl 0 rfl) ?_
  refine lv_lconst (v := (0 : Int64)) hx hb dX3_narrowed_1 (by decide) ?_
  refine W.lcmp hx hb dX3_narrowed_2 ?_
  refine lv_if_ge (tgt := 11) hx hb dX3_narrowed_3 (by decide) (fun c_1 => ?_) (fun c_1 => ?_)
  · refine lv_iconst (v := (0 : Int32)) hx hb dX3_narrowed_11 (by decide) ?_
    refine lv_istore_n (lv' := [(2, .int (0 : Int32)), (0, .long a0)]) hx hb dX3_narrowed_12 rfl hl (by decide) rfl (fun ls hl => ?_)
    refine lv_lload_n hx hb dX3_narrowed_13 rfl (lv_at hl 1 rfl) ?_
    refine lv_ldc2 (v := (9223372036854775807 : Int64)) hx hb hown (hts (.constantLong RX3 27 (9223372036854775807)) (by decide +kernel)) dX3_narrowed_14 ?_
    refine lv_land hx hb dX3_narrowed_17 ?_
    refine lv_lstore_n (lv' := [(3, .long (a0 &&& (9223372036854775807 : Int64))), (2, .int (0 : Int32)), (0, .long a0)]) hx hb dX3_narrowed_18 rfl hl (by decide) rfl (fun ls hl => ?_)
    refine lv_lload_n hx hb dX3_narrowed_19 rfl (lv_at hl 0 rfl) ?_
    refine lv_ldc2 (v := (4039728865751334912 : Int64)) hx hb hown (hts (.constantLong RX3 29 (4039728865751334912)) (by decide +kernel)) dX3_narrowed_20 ?_
    refine W.lcmp hx hb dX3_narrowed_23 ?_
    refine lv_if_ge (tgt := 39) hx hb dX3_narrowed_24 (by decide) (fun c_2 => ?_) (fun c_2 => ?_)
    · refine lv_iload_n hx hb dX3_narrowed_39 rfl (lv_at hl 1 rfl) ?_
      refine lv_lload_n hx hb dX3_narrowed_40 rfl (lv_at hl 0 rfl) ?_
      refine lv_ldc2 (v := (4035225266123964416 : Int64)) hx hb hown (hts (.constantLong RX3 24 (4035225266123964416)) (by decide +kernel)) dX3_narrowed_41 ?_
      refine lv_lsub hx hb dX3_narrowed_44 ?_
      refine lv_bipush (v := (29 : Int32)) hx hb dX3_narrowed_45 (by decide) ?_
      refine lv_lushr hx hb dX3_narrowed_47 rfl ?_
      refine lv_l2i hx hb dX3_narrowed_48 rfl ?_
      refine lv_ior hx hb dX3_narrowed_49 ?_
      exact W.iret (v := ((0 : Int32) ||| ((((((a0 &&& (9223372036854775807 : Int64)) - (4035225266123964416 : Int64))).toUInt64 >>> ((29 : Int32).toInt64.toUInt64 &&& Int64.toUInt64 63)).toInt64).toInt32))) hx hb hr (fun t ht _ => ⟨by rw [mX3_narrowed, if_pos c_1, if_pos c_2], ht⟩) (fun _ h => by cases h) dX3_narrowed_50
    · refine lv_iload_n hx hb dX3_narrowed_27 rfl (lv_at hl 1 rfl) ?_
      refine lv_lload_n hx hb dX3_narrowed_28 rfl (lv_at hl 0 rfl) ?_
      refine hc_S (As := [.long (a0 &&& (9223372036854775807 : Int64))]) (rest := [.int (0 : Int32)]) ⟨hx, hb, hml, hown, hts⟩ (ct_X1_valueOfSize l (a0 &&& (9223372036854775807 : Int64))) (va_cwS 1 hts gX3_narrowed_X1_valueOfSize rfl rfl rfl (by decide +kernel) ⟨Nat.le_of_ble_eq_true rfl, Nat.le_of_ble_eq_true rfl⟩) rfl hl.1 rfl (Nat.le_of_ble_eq_true rfl) dX3_narrowed_29 ⟨Nat.le_of_ble_eq_true rfl, Nat.le_of_ble_eq_true rfl⟩ ?_
      refine lv_ldc2d (v := (5278218763278221312 : UInt64)) hx hb hown (hts (.constantDouble RX3 35 (5278218763278221312)) (by decide +kernel)) dX3_narrowed_32 ?_
      refine lv_dmul hx hb dX3_narrowed_35 (nn64 (FP.Core.dmul_out' (vos_nn _) cp149_fin.1 cp149_fin.2)) ?_
      refine lv_d2i hx hb dX3_narrowed_36 ?_
      refine lv_ior hx hb dX3_narrowed_37 ?_
      exact W.iret (v := ((0 : Int32) ||| (FP.d2i (FP.dmul (mX1_valueOfSize (a0 &&& (9223372036854775807 : Int64))) (5278218763278221312 : UInt64))))) hx hb hr (fun t ht _ => ⟨by rw [mX3_narrowed, if_pos c_1, if_neg c_2], ht⟩) (fun _ h => by cases h) dX3_narrowed_38
  · refine lv_ldc (v := (-2147483648 : Int32)) hx hb hown (hts (.constant RX3 26 (-2147483648)) (by decide +kernel)) dX3_narrowed_6 ?_
    refine lv_goto (tgt := 12) hx hb dX3_narrowed_8 (by decide) ?_
    refine lv_istore_n (lv' := [(2, .int (-2147483648 : Int32)), (0, .long a0)]) hx hb dX3_narrowed_12 rfl hl (by decide) rfl (fun ls hl => ?_)
    refine lv_lload_n hx hb dX3_narrowed_13 rfl (lv_at hl 1 rfl) ?_
    refine lv_ldc2 (v := (9223372036854775807 : Int64)) hx hb hown (hts (.constantLong RX3 27 (9223372036854775807)) (by decide +kernel)) dX3_narrowed_14 ?_
    refine lv_land hx hb dX3_narrowed_17 ?_
    refine lv_lstore_n (lv' := [(3, .long (a0 &&& (9223372036854775807 : Int64))), (2, .int (-2147483648 : Int32)), (0, .long a0)]) hx hb dX3_narrowed_18 rfl hl (by decide) rfl (fun ls hl => ?_)
    refine lv_lload_n hx hb dX3_narrowed_19 rfl (lv_at hl 0 rfl) ?_
    refine lv_ldc2 (v := (4039728865751334912 : Int64)) hx hb hown (hts (.constantLong RX3 29 (4039728865751334912)) (by decide +kernel)) dX3_narrowed_20 ?_
    refine W.lcmp hx hb dX3_narrowed_23 ?_
    refine lv_if_ge (tgt := 39) hx hb dX3_narrowed_24 (by decide) (fun c_3 => ?_) (fun c_3 => ?_)
    · refine lv_iload_n hx hb dX3_narrowed_39 rfl (lv_at hl 1 rfl) ?_
      refine lv_lload_n hx hb dX3_narrowed_40 rfl (lv_at hl 0 rfl) ?_
      refine lv_ldc2 (v := (4035225266123964416 : Int64)) hx hb hown (hts (.constantLong RX3 24 (4035225266123964416)) (by decide +kernel)) dX3_narrowed_41 ?_
      refine lv_lsub hx hb dX3_narrowed_44 ?_
      refine lv_bipush (v := (29 : Int32)) hx hb dX3_narrowed_45 (by decide) ?_
      refine lv_lushr hx hb dX3_narrowed_47 rfl ?_
      refine lv_l2i hx hb dX3_narrowed_48 rfl ?_
      refine lv_ior hx hb dX3_narrowed_49 ?_
      exact W.iret (v := ((-2147483648 : Int32) ||| ((((((a0 &&& (9223372036854775807 : Int64)) - (4035225266123964416 : Int64))).toUInt64 >>> ((29 : Int32).toInt64.toUInt64 &&& Int64.toUInt64 63)).toInt64).toInt32))) hx hb hr (fun t ht _ => ⟨by rw [mX3_narrowed, if_neg c_1, if_pos c_3], ht⟩) (fun _ h => by cases h) dX3_narrowed_50
    · refine lv_iload_n hx hb dX3_narrowed_27 rfl (lv_at hl 1 rfl) ?_
      refine lv_lload_n hx hb dX3_narrowed_28 rfl (lv_at hl 0 rfl) ?_
      refine hc_S (As := [.long (a0 &&& (9223372036854775807 : Int64))]) (rest := [.int (-2147483648 : Int32)]) ⟨hx, hb, hml, hown, hts⟩ (ct_X1_valueOfSize l (a0 &&& (9223372036854775807 : Int64))) (va_cwS 1 hts gX3_narrowed_X1_valueOfSize rfl rfl rfl (by decide +kernel) ⟨Nat.le_of_ble_eq_true rfl, Nat.le_of_ble_eq_true rfl⟩) rfl hl.1 rfl (Nat.le_of_ble_eq_true rfl) dX3_narrowed_29 ⟨Nat.le_of_ble_eq_true rfl, Nat.le_of_ble_eq_true rfl⟩ ?_
      refine lv_ldc2d (v := (5278218763278221312 : UInt64)) hx hb hown (hts (.constantDouble RX3 35 (5278218763278221312)) (by decide +kernel)) dX3_narrowed_32 ?_
      refine lv_dmul hx hb dX3_narrowed_35 (nn64 (FP.Core.dmul_out' (vos_nn _) cp149_fin.1 cp149_fin.2)) ?_
      refine lv_d2i hx hb dX3_narrowed_36 ?_
      refine lv_ior hx hb dX3_narrowed_37 ?_
      exact W.iret (v := ((-2147483648 : Int32) ||| (FP.d2i (FP.dmul (mX1_valueOfSize (a0 &&& (9223372036854775807 : Int64))) (5278218763278221312 : UInt64))))) hx hb hr (fun t ht _ => ⟨by rw [mX3_narrowed, if_neg c_1, if_neg c_3], ht⟩) (fun _ h => by cases h) dX3_narrowed_38

def mX5_growsInSize (a0 : UInt64) (a1 : Int32) (a2 : Int32) (a3 : Int32) : Int32 := (if a3 = (0 : Int32) then (if a2 = 0 then (0 : Int32) else (if (Op.cmpValue (FP.dcmp a0 FP.dconst0) .l) ≤ 0 then (0 : Int32) else (1 : Int32))) else (if a3 = (1 : Int32) then (if a2 = 0 then (if (Op.cmpValue (FP.dcmp a0 FP.dconst0) .l) ≤ 0 then (0 : Int32) else (1 : Int32)) else (0 : Int32)) else (if a3 = (2 : Int32) then (if 0 < (Op.cmpValue (FP.dcmp a0 (4602678819172646912 : UInt64)) .l) then (1 : Int32) else (if (Op.cmpValue (FP.dcmp a0 (4602678819172646912 : UInt64)) .l) = 0 then (if a1 = 0 then (0 : Int32) else (1 : Int32)) else (0 : Int32))) else (0 : Int32))))
set_option maxHeartbeats 4000000 in
set_option maxRecDepth 100000 in
theorem ct_X5_growsInSize (l : Launch) (a0 : UInt64) (a1 : Int32) (a2 : Int32) (a3 : Int32) : Met l yX5_growsInSize wsX5_growsInSize { frames := 0, cells := 0, slots := 0, locals := 0 } (fun v _ => v = ([.double a0, .int a1, .int a2, .int a3] : List Value).toArray) (k2_QcV (.int (mX5_growsInSize a0 a1 a2 a3))) 0 0 (fun _ => False) := by
  refine Met.ofW (cc := cX5_growsInSize) (maxL := 5) (ret := (some .boolean)) (by decide) rfl ?_
  intro p e s m args below meth c s₁ B hml hv
  subst hv
  have hx := B.exec
  have hb := B.bytes
  have hr := B.returns
  have hts := atoms_spec (ws := wsX5_growsInSize) B.pre
  have hown : s.vm.findClass RX5 = some m.cls := findClass_of_methodNamed B.named
  have hlocks := B.notSynchronized
  have hl := lv_entry ([.double a0, .int a1, .int a2, .int a3]) (n := 5) (Nat.le_of_ble_eq_true rfl)
  rw [lg_entry_eq]
  generalize (lg_sl ([.double a0, .int a1, .int a2, .int a3]) ++ List.replicate (5 - (lg_sl ([.double a0, .int a1, .int a2, .int a3])).length) Slot.unset).toArray = ls at hl ⊢
  have hl : lv_has ls 5 [(0, .double a0), (2, .int a1), (3, .int a2), (4, .int a3)] := hl
  refine lv_iload hx hb dX5_growsInSize_0 (lv_at hl 3 rfl) ?_
  by_cases c_1 : a3 = (0 : Int32)
  · refine lv_tableIn (off := 26) (tgt := 28) hx hb dX5_growsInSize_2 (by rw [c_1]; decide) (by rw [c_1]; decide) (by rw [c_1]; rfl) (by decide) ?_
    refine lv_iload_n hx hb dX5_growsInSize_28 rfl (lv_at hl 2 rfl) ?_
    refine lv_if_eq (tgt := 42) hx hb dX5_growsInSize_29 (by decide) (fun c_2 => ?_) (fun c_2 => ?_)
    · refine lv_iconst (v := (0 : Int32)) hx hb dX5_growsInSize_42 (by decide) ?_
      exact W.zret (v := (0 : Int32)) hx hb hr rfl (fun t ht _ => ⟨by rw [mX5_growsInSize, if_pos c_1, if_pos c_2], ht⟩) (fun _ h => by cases h) dX5_growsInSize_43
    · refine lv_dload_n hx hb dX5_growsInSize_32 rfl (lv_at hl 0 rfl) ?_
      refine lv_dconst0 hx hb dX5_growsInSize_33 ?_
      refine lv_dcmp hx hb dX5_growsInSize_34 ?_
      refine lv_if_le (tgt := 42) hx hb dX5_growsInSize_35 (by decide) (fun c_3 => ?_) (fun c_3 => ?_)
      · refine lv_iconst (v := (0 : Int32)) hx hb dX5_growsInSize_42 (by decide) ?_
        exact W.zret (v := (0 : Int32)) hx hb hr rfl (fun t ht _ => ⟨by rw [mX5_growsInSize, if_pos c_1, if_neg c_2, if_pos c_3], ht⟩) (fun _ h => by cases h) dX5_growsInSize_43
      · refine lv_iconst (v := (1 : Int32)) hx hb dX5_growsInSize_38 (by decide) ?_
        refine lv_goto (tgt := 43) hx hb dX5_growsInSize_39 (by decide) ?_
        exact W.zret (v := (1 : Int32)) hx hb hr rfl (fun t ht _ => ⟨by rw [mX5_growsInSize, if_pos c_1, if_neg c_2, if_neg c_3], ht⟩) (fun _ h => by cases h) dX5_growsInSize_43
  by_cases c_4 : a3 = (1 : Int32)
  · refine lv_tableIn (off := 42) (tgt := 44) hx hb dX5_growsInSize_2 (by rw [c_4]; decide) (by rw [c_4]; decide) (by rw [c_4]; rfl) (by decide) ?_
    refine lv_iload_n hx hb dX5_growsInSize_44 rfl (lv_at hl 2 rfl) ?_
    refine lv_if_ne (tgt := 58) hx hb dX5_growsInSize_45 (by decide) (fun c_5 => ?_) (fun c_5 => ?_)
    · refine lv_iconst (v := (0 : Int32)) hx hb dX5_growsInSize_58 (by decide) ?_
      exact W.zret (v := (0 : Int32)) hx hb hr rfl (fun t ht _ => ⟨by rw [mX5_growsInSize, if_neg c_1, if_pos c_4, if_neg c_5], ht⟩) (fun _ h => by cases h) dX5_growsInSize_59
    · refine lv_dload_n hx hb dX5_growsInSize_48 rfl (lv_at hl 0 rfl) ?_
      refine lv_dconst0 hx hb dX5_growsInSize_49 ?_
      refine lv_dcmp hx hb dX5_growsInSize_50 ?_
      refine lv_if_le (tgt := 58) hx hb dX5_growsInSize_51 (by decide) (fun c_6 => ?_) (fun c_6 => ?_)
      · refine lv_iconst (v := (0 : Int32)) hx hb dX5_growsInSize_58 (by decide) ?_
        exact W.zret (v := (0 : Int32)) hx hb hr rfl (fun t ht _ => ⟨by rw [mX5_growsInSize, if_neg c_1, if_pos c_4, if_pos c_5, if_pos c_6], ht⟩) (fun _ h => by cases h) dX5_growsInSize_59
      · refine lv_iconst (v := (1 : Int32)) hx hb dX5_growsInSize_54 (by decide) ?_
        refine lv_goto (tgt := 59) hx hb dX5_growsInSize_55 (by decide) ?_
        exact W.zret (v := (1 : Int32)) hx hb hr rfl (fun t ht _ => ⟨by rw [mX5_growsInSize, if_neg c_1, if_pos c_4, if_pos c_5, if_neg c_6], ht⟩) (fun _ h => by cases h) dX5_growsInSize_59
  by_cases c_7 : a3 = (2 : Int32)
  · refine lv_tableIn (off := 58) (tgt := 60) hx hb dX5_growsInSize_2 (by rw [c_7]; decide) (by rw [c_7]; decide) (by rw [c_7]; rfl) (by decide) ?_
    refine lv_dload_n hx hb dX5_growsInSize_60 rfl (lv_at hl 0 rfl) ?_
    refine lv_ldc2d (v := (4602678819172646912 : UInt64)) hx hb hown (hts (.constantDouble RX5 33 (4602678819172646912)) (by decide +kernel)) dX5_growsInSize_61 ?_
    refine lv_dcmp hx hb dX5_growsInSize_64 ?_
    refine lv_if_gt (tgt := 80) hx hb dX5_growsInSize_65 (by decide) (fun c_8 => ?_) (fun c_8 => ?_)
    · refine lv_iconst (v := (1 : Int32)) hx hb dX5_growsInSize_80 (by decide) ?_
      refine lv_goto (tgt := 85) hx hb dX5_growsInSize_81 (by decide) ?_
      exact W.zret (v := (1 : Int32)) hx hb hr rfl (fun t ht _ => ⟨by rw [mX5_growsInSize, if_neg c_1, if_neg c_4, if_pos c_7, if_pos c_8], ht⟩) (fun _ h => by cases h) dX5_growsInSize_85
    · refine lv_dload_n hx hb dX5_growsInSize_68 rfl (lv_at hl 0 rfl) ?_
      refine lv_ldc2d (v := (4602678819172646912 : UInt64)) hx hb hown (hts (.constantDouble RX5 33 (4602678819172646912)) (by decide +kernel)) dX5_growsInSize_69 ?_
      refine lv_dcmp hx hb dX5_growsInSize_72 ?_
      refine lv_if_ne (tgt := 84) hx hb dX5_growsInSize_73 (by decide) (fun c_9 => ?_) (fun c_9 => ?_)
      · refine lv_iconst (v := (0 : Int32)) hx hb dX5_growsInSize_84 (by decide) ?_
        exact W.zret (v := (0 : Int32)) hx hb hr rfl (fun t ht _ => ⟨by rw [mX5_growsInSize, if_neg c_1, if_neg c_4, if_pos c_7, if_neg c_8, if_neg c_9], ht⟩) (fun _ h => by cases h) dX5_growsInSize_85
      · refine lv_iload_n hx hb dX5_growsInSize_76 rfl (lv_at hl 1 rfl) ?_
        refine lv_if_eq (tgt := 84) hx hb dX5_growsInSize_77 (by decide) (fun c_10 => ?_) (fun c_10 => ?_)
        · refine lv_iconst (v := (0 : Int32)) hx hb dX5_growsInSize_84 (by decide) ?_
          exact W.zret (v := (0 : Int32)) hx hb hr rfl (fun t ht _ => ⟨by rw [mX5_growsInSize, if_neg c_1, if_neg c_4, if_pos c_7, if_neg c_8, if_pos c_9, if_pos c_10], ht⟩) (fun _ h => by cases h) dX5_growsInSize_85
        · refine lv_iconst (v := (1 : Int32)) hx hb dX5_growsInSize_80 (by decide) ?_
          refine lv_goto (tgt := 85) hx hb dX5_growsInSize_81 (by decide) ?_
          exact W.zret (v := (1 : Int32)) hx hb hr rfl (fun t ht _ => ⟨by rw [mX5_growsInSize, if_neg c_1, if_neg c_4, if_pos c_7, if_neg c_8, if_pos c_9, if_neg c_10], ht⟩) (fun _ h => by cases h) dX5_growsInSize_85
  refine lv_tableOut (tgt := 86) hx hb dX5_growsInSize_2 (by have h_1 := lv_neT c_1 (a := 0) (by decide); have h_4 := lv_neT c_4 (a := 1) (by decide); have h_7 := lv_neT c_7 (a := 2) (by decide); omega) (by decide) ?_
  refine lv_iconst (v := (0 : Int32)) hx hb dX5_growsInSize_86 (by decide) ?_
  exact W.zret (v := (0 : Int32)) hx hb hr rfl (fun t ht _ => ⟨by rw [mX5_growsInSize, if_neg c_1, if_neg c_4, if_neg c_7], ht⟩) (fun _ h => by cases h) dX5_growsInSize_87

def mX5_whole (a0 : Int64) (a1 : Int32) : Int64 := (if (lg_cmp (a0 &&& (9223372036854775807 : Int64)) (4841369599423283200 : Int64)) < 0 then (if (lg_cmp ((FP.d2l (mX1_valueOfSize a0)) - (FP.d2l (mX1_valueOfSize a0)) / (2 : Int64) * (2 : Int64)) (0 : Int64)) = 0 then (if 0 ≤ (lg_cmp a0 (0 : Int64)) then (if (mX5_growsInSize (FP.dsub (mX1_valueOfSize a0) (FP.l2d (FP.d2l (mX1_valueOfSize a0)))) (0 : Int32) (0 : Int32) a1) = 0 then (mX1_withSignOf (mX1_ofSize (FP.l2d (FP.d2l (mX1_valueOfSize a0)))) a0) else (mX1_withSignOf (mX1_ofSize (FP.l2d ((FP.d2l (mX1_valueOfSize a0)) + (1 : Int64)))) a0)) else (if (mX5_growsInSize (FP.dsub (mX1_valueOfSize a0) (FP.l2d (FP.d2l (mX1_valueOfSize a0)))) (0 : Int32) (1 : Int32) a1) = 0 then (mX1_withSignOf (mX1_ofSize (FP.l2d (FP.d2l (mX1_valueOfSize a0)))) a0) else (mX1_withSignOf (mX1_ofSize (FP.l2d ((FP.d2l (mX1_valueOfSize a0)) + (1 : Int64)))) a0))) else (if 0 ≤ (lg_cmp a0 (0 : Int64)) then (if (mX5_growsInSize (FP.dsub (mX1_valueOfSize a0) (FP.l2d (FP.d2l (mX1_valueOfSize a0)))) (1 : Int32) (0 : Int32) a1) = 0 then (mX1_withSignOf (mX1_ofSize (FP.l2d (FP.d2l (mX1_valueOfSize a0)))) a0) else (mX1_withSignOf (mX1_ofSize (FP.l2d ((FP.d2l (mX1_valueOfSize a0)) + (1 : Int64)))) a0)) else (if (mX5_growsInSize (FP.dsub (mX1_valueOfSize a0) (FP.l2d (FP.d2l (mX1_valueOfSize a0)))) (1 : Int32) (1 : Int32) a1) = 0 then (mX1_withSignOf (mX1_ofSize (FP.l2d (FP.d2l (mX1_valueOfSize a0)))) a0) else (mX1_withSignOf (mX1_ofSize (FP.l2d ((FP.d2l (mX1_valueOfSize a0)) + (1 : Int64)))) a0)))) else a0)
set_option maxHeartbeats 4000000 in
set_option maxRecDepth 100000 in
theorem ct_X5_whole (l : Launch) (a0 : Int64) (a1 : Int32) : Met l yX5_whole wsX5_whole { frames := 3, cells := 0, slots := 0, locals := 70 } (fun v _ => v = ([.long a0, .int a1] : List Value).toArray) (k2_QcV (.long (mX5_whole a0 a1))) 0 0 (fun _ => False) := by
  refine Met.ofW (cc := cX5_whole) (maxL := 8) (ret := (some .long)) (by decide) rfl ?_
  intro p e s m args below meth c s₁ B hml hv
  subst hv
  have hx := B.exec
  have hb := B.bytes
  have hr := B.returns
  have hts := atoms_spec (ws := wsX5_whole) B.pre
  have hown : s.vm.findClass RX5 = some m.cls := findClass_of_methodNamed B.named
  have hlocks := B.notSynchronized
  have hl := lv_entry ([.long a0, .int a1]) (n := 8) (Nat.le_of_ble_eq_true rfl)
  rw [lg_entry_eq]
  generalize (lg_sl ([.long a0, .int a1]) ++ List.replicate (8 - (lg_sl ([.long a0, .int a1])).length) Slot.unset).toArray = ls at hl ⊢
  have hl : lv_has ls 8 [(0, .long a0), (2, .int a1)] := hl
  refine lv_lload_n hx hb dX5_whole_0 rfl (lv_at hl 0 rfl) ?_
  refine lv_ldc2 (v := (9223372036854775807 : Int64)) hx hb hown (hts (.constantLong RX5 11 (9223372036854775807)) (by decide +kernel)) dX5_whole_1 ?_
  refine lv_land hx hb dX5_whole_4 ?_
  refine lv_ldc2 (v := (4841369599423283200 : Int64)) hx hb hown (hts (.constantLong RX5 13 (4841369599423283200)) (by decide +kernel)) dX5_whole_5 ?_
  refine W.lcmp hx hb dX5_whole_8 ?_
  refine lv_if_lt (tgt := 14) hx hb dX5_whole_9 (by decide) (fun c_1 => ?_) (fun c_1 => ?_)
  · refine lv_lload_n hx hb dX5_whole_14 rfl (lv_at hl 0 rfl) ?_
    refine hc_S (As := [.long a0]) (rest := []) ⟨hx, hb, hml, hown, hts⟩ (ct_X1_valueOfSize l a0) (va_cwS 1 hts gX5_whole_X1_valueOfSize rfl rfl rfl (by decide +kernel) ⟨Nat.le_of_ble_eq_true rfl, Nat.le_of_ble_eq_true rfl⟩) rfl hl.1 rfl (Nat.le_of_ble_eq_true rfl) dX5_whole_15 ⟨Nat.le_of_ble_eq_true rfl, Nat.le_of_ble_eq_true rfl⟩ ?_
    refine lv_dstore_n (lv' := [(3, .double (mX1_valueOfSize a0)), (0, .long a0), (2, .int a1)]) hx hb dX5_whole_18 rfl hl (by decide) rfl (fun ls hl => ?_)
    refine lv_dload_n hx hb dX5_whole_19 rfl (lv_at hl 0 rfl) ?_
    refine lv_d2l hx hb dX5_whole_20 ?_
    refine lv_lstore (lv' := [(5, .long (FP.d2l (mX1_valueOfSize a0))), (3, .double (mX1_valueOfSize a0)), (0, .long a0), (2, .int a1)]) hx hb dX5_whole_21 hl (by decide) rfl (fun ls hl => ?_)
    refine lv_dload_n hx hb dX5_whole_23 rfl (lv_at hl 1 rfl) ?_
    refine lv_lload hx hb dX5_whole_24 (lv_at hl 0 rfl) ?_
    refine lv_l2d hx hb dX5_whole_26 ?_
    refine lv_dsub hx hb dX5_whole_27 (nn64 (FP.Core.dsub_out (vos_nn _) (FP.Core.l2d_fin _))) ?_
    refine lv_lload hx hb dX5_whole_28 (lv_at hl 0 rfl) ?_
    refine lv_ldc2 (v := (2 : Int64)) hx hb hown (hts (.constantLong RX5 19 (2)) (by decide +kernel)) dX5_whole_30 ?_
    refine lv_lrem hx hb dX5_whole_33 (by decide) ?_
    refine lv_lconst (v := (0 : Int64)) hx hb dX5_whole_34 (by decide) ?_
    refine W.lcmp hx hb dX5_whole_35 ?_
    refine lv_if_eq (tgt := 43) hx hb dX5_whole_36 (by decide) (fun c_2 => ?_) (fun c_2 => ?_)
    · refine lv_iconst (v := (0 : Int32)) hx hb dX5_whole_43 (by decide) ?_
      refine lv_lload_n hx hb dX5_whole_44 rfl (lv_at hl 2 rfl) ?_
      refine lv_lconst (v := (0 : Int64)) hx hb dX5_whole_45 (by decide) ?_
      refine W.lcmp hx hb dX5_whole_46 ?_
      refine lv_if_ge (tgt := 54) hx hb dX5_whole_47 (by decide) (fun c_3 => ?_) (fun c_3 => ?_)
      · refine lv_iconst (v := (0 : Int32)) hx hb dX5_whole_54 (by decide) ?_
        refine lv_iload_n hx hb dX5_whole_55 rfl (lv_at hl 3 rfl) ?_
        refine hc_S (As := [.double (FP.dsub (mX1_valueOfSize a0) (FP.l2d (FP.d2l (mX1_valueOfSize a0)))), .int (0 : Int32), .int (0 : Int32), .int a1]) (rest := []) ⟨hx, hb, hml, hown, hts⟩ (ct_X5_growsInSize l (FP.dsub (mX1_valueOfSize a0) (FP.l2d (FP.d2l (mX1_valueOfSize a0)))) (0 : Int32) (0 : Int32) a1) (va_cwS 4 hts gX5_whole_X5_growsInSize rfl rfl rfl (by decide +kernel) ⟨Nat.le_of_ble_eq_true rfl, Nat.le_of_ble_eq_true rfl⟩) rfl hl.1 rfl (Nat.le_of_ble_eq_true rfl) dX5_whole_56 ⟨Nat.le_of_ble_eq_true rfl, Nat.le_of_ble_eq_true rfl⟩ ?_
        refine lv_istore (lv' := [(7, .int (mX5_growsInSize (FP.dsub (mX1_valueOfSize a0) (FP.l2d (FP.d2l (mX1_valueOfSize a0)))) (0 : Int32) (0 : Int32) a1)), (5, .long (FP.d2l (mX1_valueOfSize a0))), (3, .double (mX1_valueOfSize a0)), (0, .long a0), (2, .int a1)]) hx hb dX5_whole_59 hl (by decide) rfl (fun ls hl => ?_)
        refine lv_iload hx hb dX5_whole_61 (lv_at hl 0 rfl) ?_
        refine lv_if_eq (tgt := 74) hx hb dX5_whole_63 (by decide) (fun c_4 => ?_) (fun c_4 => ?_)
        · refine lv_lload hx hb dX5_whole_74 (lv_at hl 1 rfl) ?_
          refine lv_l2d hx hb dX5_whole_76 ?_
          refine hc_S (As := [.double (FP.l2d (FP.d2l (mX1_valueOfSize a0)))]) (rest := []) ⟨hx, hb, hml, hown, hts⟩ (ct_X1_ofSize l (FP.l2d (FP.d2l (mX1_valueOfSize a0))) (FP.Core.l2d_notNaN _)) (va_cwS 1 hts gX5_whole_X1_ofSize rfl rfl rfl (by decide +kernel) ⟨Nat.le_of_ble_eq_true rfl, Nat.le_of_ble_eq_true rfl⟩) rfl hl.1 rfl (Nat.le_of_ble_eq_true rfl) dX5_whole_77 ⟨Nat.le_of_ble_eq_true rfl, Nat.le_of_ble_eq_true rfl⟩ ?_
          refine lv_lload_n hx hb dX5_whole_80 rfl (lv_at hl 3 rfl) ?_
          refine hc_S (As := [.long (mX1_ofSize (FP.l2d (FP.d2l (mX1_valueOfSize a0)))), .long a0]) (rest := []) ⟨hx, hb, hml, hown, hts⟩ (ct_X1_withSignOf l (mX1_ofSize (FP.l2d (FP.d2l (mX1_valueOfSize a0)))) a0) (va_cwS 2 hts gX5_whole_X1_withSignOf rfl rfl rfl (by decide +kernel) ⟨Nat.le_of_ble_eq_true rfl, Nat.le_of_ble_eq_true rfl⟩) rfl hl.1 rfl (Nat.le_of_ble_eq_true rfl) dX5_whole_81 ⟨Nat.le_of_ble_eq_true rfl, Nat.le_of_ble_eq_true rfl⟩ ?_
          exact W.lret (v := (mX1_withSignOf (mX1_ofSize (FP.l2d (FP.d2l (mX1_valueOfSize a0)))) a0)) hx hb hr (fun t ht _ => ⟨by rw [mX5_whole, if_pos c_1, if_pos c_2, if_pos c_3, if_pos c_4], ht⟩) (fun _ h => by cases h) dX5_whole_84
        · refine lv_lload hx hb dX5_whole_66 (lv_at hl 1 rfl) ?_
          refine lv_lconst (v := (1 : Int64)) hx hb dX5_whole_68 (by decide) ?_
          refine lv_ladd hx hb dX5_whole_69 ?_
          refine lv_l2d hx hb dX5_whole_70 ?_
          refine lv_goto (tgt := 77) hx hb dX5_whole_71 (by decide) ?_
          refine hc_S (As := [.double (FP.l2d ((FP.d2l (mX1_valueOfSize a0)) + (1 : Int64)))]) (rest := []) ⟨hx, hb, hml, hown, hts⟩ (ct_X1_ofSize l (FP.l2d ((FP.d2l (mX1_valueOfSize a0)) + (1 : Int64))) (FP.Core.l2d_notNaN _)) (va_cwS 1 hts gX5_whole_X1_ofSize rfl rfl rfl (by decide +kernel) ⟨Nat.le_of_ble_eq_true rfl, Nat.le_of_ble_eq_true rfl⟩) rfl hl.1 rfl (Nat.le_of_ble_eq_true rfl) dX5_whole_77 ⟨Nat.le_of_ble_eq_true rfl, Nat.le_of_ble_eq_true rfl⟩ ?_
          refine lv_lload_n hx hb dX5_whole_80 rfl (lv_at hl 3 rfl) ?_
          refine hc_S (As := [.long (mX1_ofSize (FP.l2d ((FP.d2l (mX1_valueOfSize a0)) + (1 : Int64)))), .long a0]) (rest := []) ⟨hx, hb, hml, hown, hts⟩ (ct_X1_withSignOf l (mX1_ofSize (FP.l2d ((FP.d2l (mX1_valueOfSize a0)) + (1 : Int64)))) a0) (va_cwS 2 hts gX5_whole_X1_withSignOf rfl rfl rfl (by decide +kernel) ⟨Nat.le_of_ble_eq_true rfl, Nat.le_of_ble_eq_true rfl⟩) rfl hl.1 rfl (Nat.le_of_ble_eq_true rfl) dX5_whole_81 ⟨Nat.le_of_ble_eq_true rfl, Nat.le_of_ble_eq_true rfl⟩ ?_
          exact W.lret (v := (mX1_withSignOf (mX1_ofSize (FP.l2d ((FP.d2l (mX1_valueOfSize a0)) + (1 : Int64)))) a0)) hx hb hr (fun t ht _ => ⟨by rw [mX5_whole, if_pos c_1, if_pos c_2, if_pos c_3, if_neg c_4], ht⟩) (fun _ h => by cases h) dX5_whole_84
      · refine lv_iconst (v := (1 : Int32)) hx hb dX5_whole_50 (by decide) ?_
        refine lv_goto (tgt := 55) hx hb dX5_whole_51 (by decide) ?_
        refine lv_iload_n hx hb dX5_whole_55 rfl (lv_at hl 3 rfl) ?_
        refine hc_S (As := [.double (FP.dsub (mX1_valueOfSize a0) (FP.l2d (FP.d2l (mX1_valueOfSize a0)))), .int (0 : Int32), .int (1 : Int32), .int a1]) (rest := []) ⟨hx, hb, hml, hown, hts⟩ (ct_X5_growsInSize l (FP.dsub (mX1_valueOfSize a0) (FP.l2d (FP.d2l (mX1_valueOfSize a0)))) (0 : Int32) (1 : Int32) a1) (va_cwS 4 hts gX5_whole_X5_growsInSize rfl rfl rfl (by decide +kernel) ⟨Nat.le_of_ble_eq_true rfl, Nat.le_of_ble_eq_true rfl⟩) rfl hl.1 rfl (Nat.le_of_ble_eq_true rfl) dX5_whole_56 ⟨Nat.le_of_ble_eq_true rfl, Nat.le_of_ble_eq_true rfl⟩ ?_
        refine lv_istore (lv' := [(7, .int (mX5_growsInSize (FP.dsub (mX1_valueOfSize a0) (FP.l2d (FP.d2l (mX1_valueOfSize a0)))) (0 : Int32) (1 : Int32) a1)), (5, .long (FP.d2l (mX1_valueOfSize a0))), (3, .double (mX1_valueOfSize a0)), (0, .long a0), (2, .int a1)]) hx hb dX5_whole_59 hl (by decide) rfl (fun ls hl => ?_)
        refine lv_iload hx hb dX5_whole_61 (lv_at hl 0 rfl) ?_
        refine lv_if_eq (tgt := 74) hx hb dX5_whole_63 (by decide) (fun c_5 => ?_) (fun c_5 => ?_)
        · refine lv_lload hx hb dX5_whole_74 (lv_at hl 1 rfl) ?_
          refine lv_l2d hx hb dX5_whole_76 ?_
          refine hc_S (As := [.double (FP.l2d (FP.d2l (mX1_valueOfSize a0)))]) (rest := []) ⟨hx, hb, hml, hown, hts⟩ (ct_X1_ofSize l (FP.l2d (FP.d2l (mX1_valueOfSize a0))) (FP.Core.l2d_notNaN _)) (va_cwS 1 hts gX5_whole_X1_ofSize rfl rfl rfl (by decide +kernel) ⟨Nat.le_of_ble_eq_true rfl, Nat.le_of_ble_eq_true rfl⟩) rfl hl.1 rfl (Nat.le_of_ble_eq_true rfl) dX5_whole_77 ⟨Nat.le_of_ble_eq_true rfl, Nat.le_of_ble_eq_true rfl⟩ ?_
          refine lv_lload_n hx hb dX5_whole_80 rfl (lv_at hl 3 rfl) ?_
          refine hc_S (As := [.long (mX1_ofSize (FP.l2d (FP.d2l (mX1_valueOfSize a0)))), .long a0]) (rest := []) ⟨hx, hb, hml, hown, hts⟩ (ct_X1_withSignOf l (mX1_ofSize (FP.l2d (FP.d2l (mX1_valueOfSize a0)))) a0) (va_cwS 2 hts gX5_whole_X1_withSignOf rfl rfl rfl (by decide +kernel) ⟨Nat.le_of_ble_eq_true rfl, Nat.le_of_ble_eq_true rfl⟩) rfl hl.1 rfl (Nat.le_of_ble_eq_true rfl) dX5_whole_81 ⟨Nat.le_of_ble_eq_true rfl, Nat.le_of_ble_eq_true rfl⟩ ?_
          exact W.lret (v := (mX1_withSignOf (mX1_ofSize (FP.l2d (FP.d2l (mX1_valueOfSize a0)))) a0)) hx hb hr (fun t ht _ => ⟨by rw [mX5_whole, if_pos c_1, if_pos c_2, if_neg c_3, if_pos c_5], ht⟩) (fun _ h => by cases h) dX5_whole_84
        · refine lv_lload hx hb dX5_whole_66 (lv_at hl 1 rfl) ?_
          refine lv_lconst (v := (1 : Int64)) hx hb dX5_whole_68 (by decide) ?_
          refine lv_ladd hx hb dX5_whole_69 ?_
          refine lv_l2d hx hb dX5_whole_70 ?_
          refine lv_goto (tgt := 77) hx hb dX5_whole_71 (by decide) ?_
          refine hc_S (As := [.double (FP.l2d ((FP.d2l (mX1_valueOfSize a0)) + (1 : Int64)))]) (rest := []) ⟨hx, hb, hml, hown, hts⟩ (ct_X1_ofSize l (FP.l2d ((FP.d2l (mX1_valueOfSize a0)) + (1 : Int64))) (FP.Core.l2d_notNaN _)) (va_cwS 1 hts gX5_whole_X1_ofSize rfl rfl rfl (by decide +kernel) ⟨Nat.le_of_ble_eq_true rfl, Nat.le_of_ble_eq_true rfl⟩) rfl hl.1 rfl (Nat.le_of_ble_eq_true rfl) dX5_whole_77 ⟨Nat.le_of_ble_eq_true rfl, Nat.le_of_ble_eq_true rfl⟩ ?_
          refine lv_lload_n hx hb dX5_whole_80 rfl (lv_at hl 3 rfl) ?_
          refine hc_S (As := [.long (mX1_ofSize (FP.l2d ((FP.d2l (mX1_valueOfSize a0)) + (1 : Int64)))), .long a0]) (rest := []) ⟨hx, hb, hml, hown, hts⟩ (ct_X1_withSignOf l (mX1_ofSize (FP.l2d ((FP.d2l (mX1_valueOfSize a0)) + (1 : Int64)))) a0) (va_cwS 2 hts gX5_whole_X1_withSignOf rfl rfl rfl (by decide +kernel) ⟨Nat.le_of_ble_eq_true rfl, Nat.le_of_ble_eq_true rfl⟩) rfl hl.1 rfl (Nat.le_of_ble_eq_true rfl) dX5_whole_81 ⟨Nat.le_of_ble_eq_true rfl, Nat.le_of_ble_eq_true rfl⟩ ?_
          exact W.lret (v := (mX1_withSignOf (mX1_ofSize (FP.l2d ((FP.d2l (mX1_valueOfSize a0)) + (1 : Int64)))) a0)) hx hb hr (fun t ht _ => ⟨by rw [mX5_whole, if_pos c_1, if_pos c_2, if_neg c_3, if_neg c_5], ht⟩) (fun _ h => by cases h) dX5_whole_84
    · refine lv_iconst (v := (1 : Int32)) hx hb dX5_whole_39 (by decide) ?_
      refine lv_goto (tgt := 44) hx hb dX5_whole_40 (by decide) ?_
      refine lv_lload_n hx hb dX5_whole_44 rfl (lv_at hl 2 rfl) ?_
      refine lv_lconst (v := (0 : Int64)) hx hb dX5_whole_45 (by decide) ?_
      refine W.lcmp hx hb dX5_whole_46 ?_
      refine lv_if_ge (tgt := 54) hx hb dX5_whole_47 (by decide) (fun c_6 => ?_) (fun c_6 => ?_)
      · refine lv_iconst (v := (0 : Int32)) hx hb dX5_whole_54 (by decide) ?_
        refine lv_iload_n hx hb dX5_whole_55 rfl (lv_at hl 3 rfl) ?_
        refine hc_S (As := [.double (FP.dsub (mX1_valueOfSize a0) (FP.l2d (FP.d2l (mX1_valueOfSize a0)))), .int (1 : Int32), .int (0 : Int32), .int a1]) (rest := []) ⟨hx, hb, hml, hown, hts⟩ (ct_X5_growsInSize l (FP.dsub (mX1_valueOfSize a0) (FP.l2d (FP.d2l (mX1_valueOfSize a0)))) (1 : Int32) (0 : Int32) a1) (va_cwS 4 hts gX5_whole_X5_growsInSize rfl rfl rfl (by decide +kernel) ⟨Nat.le_of_ble_eq_true rfl, Nat.le_of_ble_eq_true rfl⟩) rfl hl.1 rfl (Nat.le_of_ble_eq_true rfl) dX5_whole_56 ⟨Nat.le_of_ble_eq_true rfl, Nat.le_of_ble_eq_true rfl⟩ ?_
        refine lv_istore (lv' := [(7, .int (mX5_growsInSize (FP.dsub (mX1_valueOfSize a0) (FP.l2d (FP.d2l (mX1_valueOfSize a0)))) (1 : Int32) (0 : Int32) a1)), (5, .long (FP.d2l (mX1_valueOfSize a0))), (3, .double (mX1_valueOfSize a0)), (0, .long a0), (2, .int a1)]) hx hb dX5_whole_59 hl (by decide) rfl (fun ls hl => ?_)
        refine lv_iload hx hb dX5_whole_61 (lv_at hl 0 rfl) ?_
        refine lv_if_eq (tgt := 74) hx hb dX5_whole_63 (by decide) (fun c_7 => ?_) (fun c_7 => ?_)
        · refine lv_lload hx hb dX5_whole_74 (lv_at hl 1 rfl) ?_
          refine lv_l2d hx hb dX5_whole_76 ?_
          refine hc_S (As := [.double (FP.l2d (FP.d2l (mX1_valueOfSize a0)))]) (rest := []) ⟨hx, hb, hml, hown, hts⟩ (ct_X1_ofSize l (FP.l2d (FP.d2l (mX1_valueOfSize a0))) (FP.Core.l2d_notNaN _)) (va_cwS 1 hts gX5_whole_X1_ofSize rfl rfl rfl (by decide +kernel) ⟨Nat.le_of_ble_eq_true rfl, Nat.le_of_ble_eq_true rfl⟩) rfl hl.1 rfl (Nat.le_of_ble_eq_true rfl) dX5_whole_77 ⟨Nat.le_of_ble_eq_true rfl, Nat.le_of_ble_eq_true rfl⟩ ?_
          refine lv_lload_n hx hb dX5_whole_80 rfl (lv_at hl 3 rfl) ?_
          refine hc_S (As := [.long (mX1_ofSize (FP.l2d (FP.d2l (mX1_valueOfSize a0)))), .long a0]) (rest := []) ⟨hx, hb, hml, hown, hts⟩ (ct_X1_withSignOf l (mX1_ofSize (FP.l2d (FP.d2l (mX1_valueOfSize a0)))) a0) (va_cwS 2 hts gX5_whole_X1_withSignOf rfl rfl rfl (by decide +kernel) ⟨Nat.le_of_ble_eq_true rfl, Nat.le_of_ble_eq_true rfl⟩) rfl hl.1 rfl (Nat.le_of_ble_eq_true rfl) dX5_whole_81 ⟨Nat.le_of_ble_eq_true rfl, Nat.le_of_ble_eq_true rfl⟩ ?_
          exact W.lret (v := (mX1_withSignOf (mX1_ofSize (FP.l2d (FP.d2l (mX1_valueOfSize a0)))) a0)) hx hb hr (fun t ht _ => ⟨by rw [mX5_whole, if_pos c_1, if_neg c_2, if_pos c_6, if_pos c_7], ht⟩) (fun _ h => by cases h) dX5_whole_84
        · refine lv_lload hx hb dX5_whole_66 (lv_at hl 1 rfl) ?_
          refine lv_lconst (v := (1 : Int64)) hx hb dX5_whole_68 (by decide) ?_
          refine lv_ladd hx hb dX5_whole_69 ?_
          refine lv_l2d hx hb dX5_whole_70 ?_
          refine lv_goto (tgt := 77) hx hb dX5_whole_71 (by decide) ?_
          refine hc_S (As := [.double (FP.l2d ((FP.d2l (mX1_valueOfSize a0)) + (1 : Int64)))]) (rest := []) ⟨hx, hb, hml, hown, hts⟩ (ct_X1_ofSize l (FP.l2d ((FP.d2l (mX1_valueOfSize a0)) + (1 : Int64))) (FP.Core.l2d_notNaN _)) (va_cwS 1 hts gX5_whole_X1_ofSize rfl rfl rfl (by decide +kernel) ⟨Nat.le_of_ble_eq_true rfl, Nat.le_of_ble_eq_true rfl⟩) rfl hl.1 rfl (Nat.le_of_ble_eq_true rfl) dX5_whole_77 ⟨Nat.le_of_ble_eq_true rfl, Nat.le_of_ble_eq_true rfl⟩ ?_
          refine lv_lload_n hx hb dX5_whole_80 rfl (lv_at hl 3 rfl) ?_
          refine hc_S (As := [.long (mX1_ofSize (FP.l2d ((FP.d2l (mX1_valueOfSize a0)) + (1 : Int64)))), .long a0]) (rest := []) ⟨hx, hb, hml, hown, hts⟩ (ct_X1_withSignOf l (mX1_ofSize (FP.l2d ((FP.d2l (mX1_valueOfSize a0)) + (1 : Int64)))) a0) (va_cwS 2 hts gX5_whole_X1_withSignOf rfl rfl rfl (by decide +kernel) ⟨Nat.le_of_ble_eq_true rfl, Nat.le_of_ble_eq_true rfl⟩) rfl hl.1 rfl (Nat.le_of_ble_eq_true rfl) dX5_whole_81 ⟨Nat.le_of_ble_eq_true rfl, Nat.le_of_ble_eq_true rfl⟩ ?_
          exact W.lret (v := (mX1_withSignOf (mX1_ofSize (FP.l2d ((FP.d2l (mX1_valueOfSize a0)) + (1 : Int64)))) a0)) hx hb hr (fun t ht _ => ⟨by rw [mX5_whole, if_pos c_1, if_neg c_2, if_pos c_6, if_neg c_7], ht⟩) (fun _ h => by cases h) dX5_whole_84
      · refine lv_iconst (v := (1 : Int32)) hx hb dX5_whole_50 (by decide) ?_
        refine lv_goto (tgt := 55) hx hb dX5_whole_51 (by decide) ?_
        refine lv_iload_n hx hb dX5_whole_55 rfl (lv_at hl 3 rfl) ?_
        refine hc_S (As := [.double (FP.dsub (mX1_valueOfSize a0) (FP.l2d (FP.d2l (mX1_valueOfSize a0)))), .int (1 : Int32), .int (1 : Int32), .int a1]) (rest := []) ⟨hx, hb, hml, hown, hts⟩ (ct_X5_growsInSize l (FP.dsub (mX1_valueOfSize a0) (FP.l2d (FP.d2l (mX1_valueOfSize a0)))) (1 : Int32) (1 : Int32) a1) (va_cwS 4 hts gX5_whole_X5_growsInSize rfl rfl rfl (by decide +kernel) ⟨Nat.le_of_ble_eq_true rfl, Nat.le_of_ble_eq_true rfl⟩) rfl hl.1 rfl (Nat.le_of_ble_eq_true rfl) dX5_whole_56 ⟨Nat.le_of_ble_eq_true rfl, Nat.le_of_ble_eq_true rfl⟩ ?_
        refine lv_istore (lv' := [(7, .int (mX5_growsInSize (FP.dsub (mX1_valueOfSize a0) (FP.l2d (FP.d2l (mX1_valueOfSize a0)))) (1 : Int32) (1 : Int32) a1)), (5, .long (FP.d2l (mX1_valueOfSize a0))), (3, .double (mX1_valueOfSize a0)), (0, .long a0), (2, .int a1)]) hx hb dX5_whole_59 hl (by decide) rfl (fun ls hl => ?_)
        refine lv_iload hx hb dX5_whole_61 (lv_at hl 0 rfl) ?_
        refine lv_if_eq (tgt := 74) hx hb dX5_whole_63 (by decide) (fun c_8 => ?_) (fun c_8 => ?_)
        · refine lv_lload hx hb dX5_whole_74 (lv_at hl 1 rfl) ?_
          refine lv_l2d hx hb dX5_whole_76 ?_
          refine hc_S (As := [.double (FP.l2d (FP.d2l (mX1_valueOfSize a0)))]) (rest := []) ⟨hx, hb, hml, hown, hts⟩ (ct_X1_ofSize l (FP.l2d (FP.d2l (mX1_valueOfSize a0))) (FP.Core.l2d_notNaN _)) (va_cwS 1 hts gX5_whole_X1_ofSize rfl rfl rfl (by decide +kernel) ⟨Nat.le_of_ble_eq_true rfl, Nat.le_of_ble_eq_true rfl⟩) rfl hl.1 rfl (Nat.le_of_ble_eq_true rfl) dX5_whole_77 ⟨Nat.le_of_ble_eq_true rfl, Nat.le_of_ble_eq_true rfl⟩ ?_
          refine lv_lload_n hx hb dX5_whole_80 rfl (lv_at hl 3 rfl) ?_
          refine hc_S (As := [.long (mX1_ofSize (FP.l2d (FP.d2l (mX1_valueOfSize a0)))), .long a0]) (rest := []) ⟨hx, hb, hml, hown, hts⟩ (ct_X1_withSignOf l (mX1_ofSize (FP.l2d (FP.d2l (mX1_valueOfSize a0)))) a0) (va_cwS 2 hts gX5_whole_X1_withSignOf rfl rfl rfl (by decide +kernel) ⟨Nat.le_of_ble_eq_true rfl, Nat.le_of_ble_eq_true rfl⟩) rfl hl.1 rfl (Nat.le_of_ble_eq_true rfl) dX5_whole_81 ⟨Nat.le_of_ble_eq_true rfl, Nat.le_of_ble_eq_true rfl⟩ ?_
          exact W.lret (v := (mX1_withSignOf (mX1_ofSize (FP.l2d (FP.d2l (mX1_valueOfSize a0)))) a0)) hx hb hr (fun t ht _ => ⟨by rw [mX5_whole, if_pos c_1, if_neg c_2, if_neg c_6, if_pos c_8], ht⟩) (fun _ h => by cases h) dX5_whole_84
        · refine lv_lload hx hb dX5_whole_66 (lv_at hl 1 rfl) ?_
          refine lv_lconst (v := (1 : Int64)) hx hb dX5_whole_68 (by decide) ?_
          refine lv_ladd hx hb dX5_whole_69 ?_
          refine lv_l2d hx hb dX5_whole_70 ?_
          refine lv_goto (tgt := 77) hx hb dX5_whole_71 (by decide) ?_
          refine hc_S (As := [.double (FP.l2d ((FP.d2l (mX1_valueOfSize a0)) + (1 : Int64)))]) (rest := []) ⟨hx, hb, hml, hown, hts⟩ (ct_X1_ofSize l (FP.l2d ((FP.d2l (mX1_valueOfSize a0)) + (1 : Int64))) (FP.Core.l2d_notNaN _)) (va_cwS 1 hts gX5_whole_X1_ofSize rfl rfl rfl (by decide +kernel) ⟨Nat.le_of_ble_eq_true rfl, Nat.le_of_ble_eq_true rfl⟩) rfl hl.1 rfl (Nat.le_of_ble_eq_true rfl) dX5_whole_77 ⟨Nat.le_of_ble_eq_true rfl, Nat.le_of_ble_eq_true rfl⟩ ?_
          refine lv_lload_n hx hb dX5_whole_80 rfl (lv_at hl 3 rfl) ?_
          refine hc_S (As := [.long (mX1_ofSize (FP.l2d ((FP.d2l (mX1_valueOfSize a0)) + (1 : Int64)))), .long a0]) (rest := []) ⟨hx, hb, hml, hown, hts⟩ (ct_X1_withSignOf l (mX1_ofSize (FP.l2d ((FP.d2l (mX1_valueOfSize a0)) + (1 : Int64)))) a0) (va_cwS 2 hts gX5_whole_X1_withSignOf rfl rfl rfl (by decide +kernel) ⟨Nat.le_of_ble_eq_true rfl, Nat.le_of_ble_eq_true rfl⟩) rfl hl.1 rfl (Nat.le_of_ble_eq_true rfl) dX5_whole_81 ⟨Nat.le_of_ble_eq_true rfl, Nat.le_of_ble_eq_true rfl⟩ ?_
          exact W.lret (v := (mX1_withSignOf (mX1_ofSize (FP.l2d ((FP.d2l (mX1_valueOfSize a0)) + (1 : Int64)))) a0)) hx hb hr (fun t ht _ => ⟨by rw [mX5_whole, if_pos c_1, if_neg c_2, if_neg c_6, if_neg c_8], ht⟩) (fun _ h => by cases h) dX5_whole_84
  · refine lv_lload_n hx hb dX5_whole_12 rfl (lv_at hl 0 rfl) ?_
    exact W.lret (v := a0) hx hb hr (fun t ht _ => ⟨by rw [mX5_whole, if_neg c_1], ht⟩) (fun _ h => by cases h) dX5_whole_13
