def mJxe99ae_isNaN_b9ae7 (a0 : UInt64) : Int32 := (if (Op.cmpValue (FP.dcmp a0 a0) .l) = 0 then (0 : Int32) else (1 : Int32))
set_option maxHeartbeats 4000000 in
set_option maxRecDepth 100000 in
theorem ct_Jxe99ae_isNaN_b9ae7 (l : Launch) (a0 : UInt64) : Met l yJxe99ae_isNaN_b9ae7 wsJxe99ae_isNaN_b9ae7 { frames := 0, cells := 0, slots := 0, locals := 0 } (fun v _ => v = ([.double a0] : List Value).toArray) (k2_QcV (.int (mJxe99ae_isNaN_b9ae7 a0))) 0 0 (fun _ => False) := by
  refine va_MetF (cc := cJxe99ae_isNaN_b9ae7) (maxL := 2) (ret := (some .boolean)) (by decide +kernel) rfl ?_
  intro p e s m args below meth c s₁ B hml hv
  subst hv
  have hx := B.exec
  have hb := B.bytes
  have hr := B.returns
  have hts := atoms_spec (ws := wsJxe99ae_isNaN_b9ae7) B.pre
  have hown : s.vm.findClass RJxe99ae = some m.cls := findClass_of_methodNamed B.named
  have hlocks := B.notSynchronized
  have hl := lv_entry ([.double a0]) (n := 2) (Nat.le_of_ble_eq_true rfl)
  rw [lg_entry_eq]
  generalize (lg_sl ([.double a0]) ++ List.replicate (2 - (lg_sl ([.double a0])).length) Slot.unset).toArray = ls at hl ⊢
  have hl : lv_has ls 2 [(0, .double a0)] := hl
  refine lv_dload_n hx hb dJxe99ae_isNaN_b9ae7_0 rfl (lv_at hl 0 rfl) ?_
  refine lv_dload_n hx hb dJxe99ae_isNaN_b9ae7_1 rfl (lv_at hl 0 rfl) ?_
  refine lv_dcmp hx hb dJxe99ae_isNaN_b9ae7_2 ?_
  refine lv_if_eq (tgt := 10) hx hb dJxe99ae_isNaN_b9ae7_3 (by decide) (fun c_1 => ?_) (fun c_1 => ?_)
  · refine lv_iconst (v := (0 : Int32)) hx hb dJxe99ae_isNaN_b9ae7_10 (by decide) ?_
    exact W.zret (v := (0 : Int32)) hx hb hr rfl (fun t ht _ => ⟨by rw [mJxe99ae_isNaN_b9ae7, if_pos c_1], ht⟩) (fun _ h => by cases h) dJxe99ae_isNaN_b9ae7_11
  · refine lv_iconst (v := (1 : Int32)) hx hb dJxe99ae_isNaN_b9ae7_6 (by decide) ?_
    refine lv_goto (tgt := 11) hx hb dJxe99ae_isNaN_b9ae7_7 (by decide) ?_
    exact W.zret (v := (1 : Int32)) hx hb hr rfl (fun t ht _ => ⟨by rw [mJxe99ae_isNaN_b9ae7, if_neg c_1], ht⟩) (fun _ h => by cases h) dJxe99ae_isNaN_b9ae7_11

def mJxe99ae_doubleToLongBits_ccdee (a0 : UInt64) : Int64 := (if (mJxe99ae_isNaN_b9ae7 a0) = 0 then a0.toInt64 else (9221120237041090560 : Int64))
set_option maxHeartbeats 4000000 in
set_option maxRecDepth 100000 in
theorem ct_Jxe99ae_doubleToLongBits_ccdee (l : Launch) (a0 : UInt64) : Met l yJxe99ae_doubleToLongBits_ccdee wsJxe99ae_doubleToLongBits_ccdee { frames := 1, cells := 0, slots := 0, locals := 21 } (fun v _ => v = ([.double a0] : List Value).toArray) (k2_QcV (.long (mJxe99ae_doubleToLongBits_ccdee a0))) 0 0 (fun _ => False) := by
  refine va_MetF (cc := cJxe99ae_doubleToLongBits_ccdee) (maxL := 2) (ret := (some .long)) (by decide +kernel) rfl ?_
  intro p e s m args below meth c s₁ B hml hv
  subst hv
  have hx := B.exec
  have hb := B.bytes
  have hr := B.returns
  have hts := atoms_spec (ws := wsJxe99ae_doubleToLongBits_ccdee) B.pre
  have hown : s.vm.findClass RJxe99ae = some m.cls := findClass_of_methodNamed B.named
  have hlocks := B.notSynchronized
  have hl := lv_entry ([.double a0]) (n := 2) (Nat.le_of_ble_eq_true rfl)
  rw [lg_entry_eq]
  generalize (lg_sl ([.double a0]) ++ List.replicate (2 - (lg_sl ([.double a0])).length) Slot.unset).toArray = ls at hl ⊢
  have hl : lv_has ls 2 [(0, .double a0)] := hl
  refine lv_dload_n hx hb dJxe99ae_doubleToLongBits_ccdee_0 rfl (lv_at hl 0 rfl) ?_
  refine hc_S (As := [.double a0]) (rest := []) ⟨hx, hb, hml, hown, hts⟩ (ct_Jxe99ae_isNaN_b9ae7 l a0) (va_cwS 1 hts gJxe99ae_doubleToLongBits_ccdee_Jxe99ae_isNaN_b9ae7 rfl rfl rfl (by decide +kernel) ⟨Nat.le_of_ble_eq_true rfl, Nat.le_of_ble_eq_true rfl⟩) rfl hl.1 rfl (Nat.le_of_ble_eq_true rfl) dJxe99ae_doubleToLongBits_ccdee_1 ⟨Nat.le_of_ble_eq_true rfl, Nat.le_of_ble_eq_true rfl⟩ ?_
  refine lv_if_ne (tgt := 12) hx hb dJxe99ae_doubleToLongBits_ccdee_4 (by decide) (fun c_1 => ?_) (fun c_1 => ?_)
  · refine lv_ldc2 (v := (9221120237041090560 : Int64)) hx hb hown (hts (.constantLong RJxe99ae 137 (9221120237041090560)) (by decide +kernel)) dJxe99ae_doubleToLongBits_ccdee_12 ?_
    exact W.lret (v := (9221120237041090560 : Int64)) hx hb hr (fun t ht _ => ⟨by rw [mJxe99ae_doubleToLongBits_ccdee, if_neg c_1], ht⟩) (fun _ h => by cases h) dJxe99ae_doubleToLongBits_ccdee_15
  · refine lv_dload_n hx hb dJxe99ae_doubleToLongBits_ccdee_7 rfl (lv_at hl 0 rfl) ?_
    refine vn_d2l hx hb (by rw [hml]; exact hl.1.symm) hown (hts (.methodLink RJxe99ae 134 ⟨"java/lang/Double", "doubleToRawLongBits", "(D)J"⟩) (by decide +kernel)) (hts (.native ⟨"java/lang/Double", "doubleToRawLongBits", "(D)J"⟩) (by decide +kernel)) (hts (.static ⟨"java/lang/Double", "doubleToRawLongBits", "(D)J"⟩) (by decide +kernel)) (hts (.initialized "java/lang/Double") (by decide +kernel)) (Nat.le_of_ble_eq_true rfl) (Nat.le_of_ble_eq_true rfl) dJxe99ae_doubleToLongBits_ccdee_8 ?_
    exact W.lret (v := a0.toInt64) hx hb hr (fun t ht _ => ⟨by rw [mJxe99ae_doubleToLongBits_ccdee, if_pos c_1], ht⟩) (fun _ h => by cases h) dJxe99ae_doubleToLongBits_ccdee_11

def mJxf58ca_isNaN_12338 (a0 : UInt32) : Int32 := (if (Op.cmpValue (FP.fcmp a0 a0) .l) = 0 then (0 : Int32) else (1 : Int32))
set_option maxHeartbeats 4000000 in
set_option maxRecDepth 100000 in
theorem ct_Jxf58ca_isNaN_12338 (l : Launch) (a0 : UInt32) : Met l yJxf58ca_isNaN_12338 wsJxf58ca_isNaN_12338 { frames := 0, cells := 0, slots := 0, locals := 0 } (fun v _ => v = ([.float a0] : List Value).toArray) (k2_QcV (.int (mJxf58ca_isNaN_12338 a0))) 0 0 (fun _ => False) := by
  refine va_MetF (cc := cJxf58ca_isNaN_12338) (maxL := 1) (ret := (some .boolean)) (by decide +kernel) rfl ?_
  intro p e s m args below meth c s₁ B hml hv
  subst hv
  have hx := B.exec
  have hb := B.bytes
  have hr := B.returns
  have hts := atoms_spec (ws := wsJxf58ca_isNaN_12338) B.pre
  have hown : s.vm.findClass RJxf58ca = some m.cls := findClass_of_methodNamed B.named
  have hlocks := B.notSynchronized
  have hl := lv_entry ([.float a0]) (n := 1) (Nat.le_of_ble_eq_true rfl)
  rw [lg_entry_eq]
  generalize (lg_sl ([.float a0]) ++ List.replicate (1 - (lg_sl ([.float a0])).length) Slot.unset).toArray = ls at hl ⊢
  have hl : lv_has ls 1 [(0, .float a0)] := hl
  refine lv_fload_n hx hb dJxf58ca_isNaN_12338_0 rfl (lv_at hl 0 rfl) ?_
  refine lv_fload_n hx hb dJxf58ca_isNaN_12338_1 rfl (lv_at hl 0 rfl) ?_
  refine lv_fcmp hx hb dJxf58ca_isNaN_12338_2 ?_
  refine lv_if_eq (tgt := 10) hx hb dJxf58ca_isNaN_12338_3 (by decide) (fun c_1 => ?_) (fun c_1 => ?_)
  · refine lv_iconst (v := (0 : Int32)) hx hb dJxf58ca_isNaN_12338_10 (by decide) ?_
    exact W.zret (v := (0 : Int32)) hx hb hr rfl (fun t ht _ => ⟨by rw [mJxf58ca_isNaN_12338, if_pos c_1], ht⟩) (fun _ h => by cases h) dJxf58ca_isNaN_12338_11
  · refine lv_iconst (v := (1 : Int32)) hx hb dJxf58ca_isNaN_12338_6 (by decide) ?_
    refine lv_goto (tgt := 11) hx hb dJxf58ca_isNaN_12338_7 (by decide) ?_
    exact W.zret (v := (1 : Int32)) hx hb hr rfl (fun t ht _ => ⟨by rw [mJxf58ca_isNaN_12338, if_neg c_1], ht⟩) (fun _ h => by cases h) dJxf58ca_isNaN_12338_11

def mJxf58ca_floatToIntBits_5c35a (a0 : UInt32) : Int32 := (if (mJxf58ca_isNaN_12338 a0) = 0 then a0.toInt32 else (2143289344 : Int32))
set_option maxHeartbeats 4000000 in
set_option maxRecDepth 100000 in
theorem ct_Jxf58ca_floatToIntBits_5c35a (l : Launch) (a0 : UInt32) : Met l yJxf58ca_floatToIntBits_5c35a wsJxf58ca_floatToIntBits_5c35a { frames := 1, cells := 0, slots := 0, locals := 20 } (fun v _ => v = ([.float a0] : List Value).toArray) (k2_QcV (.int (mJxf58ca_floatToIntBits_5c35a a0))) 0 0 (fun _ => False) := by
  refine va_MetF (cc := cJxf58ca_floatToIntBits_5c35a) (maxL := 1) (ret := (some .int)) (by decide +kernel) rfl ?_
  intro p e s m args below meth c s₁ B hml hv
  subst hv
  have hx := B.exec
  have hb := B.bytes
  have hr := B.returns
  have hts := atoms_spec (ws := wsJxf58ca_floatToIntBits_5c35a) B.pre
  have hown : s.vm.findClass RJxf58ca = some m.cls := findClass_of_methodNamed B.named
  have hlocks := B.notSynchronized
  have hl := lv_entry ([.float a0]) (n := 1) (Nat.le_of_ble_eq_true rfl)
  rw [lg_entry_eq]
  generalize (lg_sl ([.float a0]) ++ List.replicate (1 - (lg_sl ([.float a0])).length) Slot.unset).toArray = ls at hl ⊢
  have hl : lv_has ls 1 [(0, .float a0)] := hl
  refine lv_fload_n hx hb dJxf58ca_floatToIntBits_5c35a_0 rfl (lv_at hl 0 rfl) ?_
  refine hc_S (As := [.float a0]) (rest := []) ⟨hx, hb, hml, hown, hts⟩ (ct_Jxf58ca_isNaN_12338 l a0) (va_cwS 1 hts gJxf58ca_floatToIntBits_5c35a_Jxf58ca_isNaN_12338 rfl rfl rfl (by decide +kernel) ⟨Nat.le_of_ble_eq_true rfl, Nat.le_of_ble_eq_true rfl⟩) rfl hl.1 rfl (Nat.le_of_ble_eq_true rfl) dJxf58ca_floatToIntBits_5c35a_1 ⟨Nat.le_of_ble_eq_true rfl, Nat.le_of_ble_eq_true rfl⟩ ?_
  refine lv_if_ne (tgt := 12) hx hb dJxf58ca_floatToIntBits_5c35a_4 (by decide) (fun c_1 => ?_) (fun c_1 => ?_)
  · refine lv_ldc (v := (2143289344 : Int32)) hx hb hown (hts (.constant RJxf58ca 77 (2143289344)) (by decide +kernel)) dJxf58ca_floatToIntBits_5c35a_12 ?_
    exact W.iret (v := (2143289344 : Int32)) hx hb hr (fun t ht _ => ⟨by rw [mJxf58ca_floatToIntBits_5c35a, if_neg c_1], ht⟩) (fun _ h => by cases h) dJxf58ca_floatToIntBits_5c35a_14
  · refine lv_fload_n hx hb dJxf58ca_floatToIntBits_5c35a_7 rfl (lv_at hl 0 rfl) ?_
    refine vn_f2i hx hb (by rw [hml]; exact hl.1.symm) hown (hts (.methodLink RJxf58ca 74 ⟨"java/lang/Float", "floatToRawIntBits", "(F)I"⟩) (by decide +kernel)) (hts (.native ⟨"java/lang/Float", "floatToRawIntBits", "(F)I"⟩) (by decide +kernel)) (hts (.static ⟨"java/lang/Float", "floatToRawIntBits", "(F)I"⟩) (by decide +kernel)) (hts (.initialized "java/lang/Float") (by decide +kernel)) (Nat.le_of_ble_eq_true rfl) (Nat.le_of_ble_eq_true rfl) dJxf58ca_floatToIntBits_5c35a_8 ?_
    exact W.iret (v := a0.toInt32) hx hb hr (fun t ht _ => ⟨by rw [mJxf58ca_floatToIntBits_5c35a, if_pos c_1], ht⟩) (fun _ h => by cases h) dJxf58ca_floatToIntBits_5c35a_11

def mX7_of (a0 : Int64) : UInt64 := a0.toUInt64
set_option maxHeartbeats 4000000 in
set_option maxRecDepth 100000 in
theorem ct_X7_of (l : Launch) (a0 : Int64) (hs : vn_snl2d a0 = false) : Met l yX7_of wsX7_of { frames := 1, cells := 0, slots := 0, locals := 15 } (fun v _ => v = ([.long a0] : List Value).toArray) (k2_QcV (.double (mX7_of a0))) 0 0 (fun _ => False) := by
  refine Met.ofW (cc := cX7_of) (maxL := 2) (ret := (some .double)) (by decide) rfl ?_
  intro p e s m args below meth c s₁ B hml hv
  subst hv
  have hx := B.exec
  have hb := B.bytes
  have hr := B.returns
  have hts := atoms_spec (ws := wsX7_of) B.pre
  have hown : s.vm.findClass RX7 = some m.cls := findClass_of_methodNamed B.named
  have hlocks := B.notSynchronized
  have hl := lv_entry ([.long a0]) (n := 2) (Nat.le_of_ble_eq_true rfl)
  rw [lg_entry_eq]
  generalize (lg_sl ([.long a0]) ++ List.replicate (2 - (lg_sl ([.long a0])).length) Slot.unset).toArray = ls at hl ⊢
  have hl : lv_has ls 2 [(0, .long a0)] := hl
  refine lv_lload_n hx hb dX7_of_0 rfl (lv_at hl 0 rfl) ?_
  refine vn_l2d hx hb (by rw [hml]; exact hl.1.symm) hown (hts (.methodLink RX7 62 ⟨"java/lang/Double", "longBitsToDouble", "(J)D"⟩) (by decide +kernel)) (hts (.native ⟨"java/lang/Double", "longBitsToDouble", "(J)D"⟩) (by decide +kernel)) (hts (.static ⟨"java/lang/Double", "longBitsToDouble", "(J)D"⟩) (by decide +kernel)) (hts (.initialized "java/lang/Double") (by decide +kernel)) hs (Nat.le_of_ble_eq_true rfl) (Nat.le_of_ble_eq_true rfl) dX7_of_1 ?_
  exact W.dret (v := a0.toUInt64) hx hb hr (fun t ht _ => ⟨by rw [mX7_of], ht⟩) (fun _ h => by cases h) dX7_of_4

def mX7_of4 (a0 : Int32) : UInt32 := a0.toUInt32
set_option maxHeartbeats 4000000 in
set_option maxRecDepth 100000 in
theorem ct_X7_of4 (l : Launch) (a0 : Int32) (hs : vn_sni2f a0 = false) : Met l yX7_of4 wsX7_of4 { frames := 1, cells := 0, slots := 0, locals := 15 } (fun v _ => v = ([.int a0] : List Value).toArray) (k2_QcV (.float (mX7_of4 a0))) 0 0 (fun _ => False) := by
  refine Met.ofW (cc := cX7_of4) (maxL := 1) (ret := (some .float)) (by decide) rfl ?_
  intro p e s m args below meth c s₁ B hml hv
  subst hv
  have hx := B.exec
  have hb := B.bytes
  have hr := B.returns
  have hts := atoms_spec (ws := wsX7_of4) B.pre
  have hown : s.vm.findClass RX7 = some m.cls := findClass_of_methodNamed B.named
  have hlocks := B.notSynchronized
  have hl := lv_entry ([.int a0]) (n := 1) (Nat.le_of_ble_eq_true rfl)
  rw [lg_entry_eq]
  generalize (lg_sl ([.int a0]) ++ List.replicate (1 - (lg_sl ([.int a0])).length) Slot.unset).toArray = ls at hl ⊢
  have hl : lv_has ls 1 [(0, .int a0)] := hl
  refine lv_iload_n hx hb dX7_of4_0 rfl (lv_at hl 0 rfl) ?_
  refine vn_i2f hx hb (by rw [hml]; exact hl.1.symm) hown (hts (.methodLink RX7 99 ⟨"java/lang/Float", "intBitsToFloat", "(I)F"⟩) (by decide +kernel)) (hts (.native ⟨"java/lang/Float", "intBitsToFloat", "(I)F"⟩) (by decide +kernel)) (hts (.static ⟨"java/lang/Float", "intBitsToFloat", "(I)F"⟩) (by decide +kernel)) (hts (.initialized "java/lang/Float") (by decide +kernel)) hs (Nat.le_of_ble_eq_true rfl) (Nat.le_of_ble_eq_true rfl) dX7_of4_1 ?_
  exact W.fret (v := a0.toUInt32) hx hb hr (fun t ht _ => ⟨by rw [mX7_of4], ht⟩) (fun _ h => by cases h) dX7_of4_4

def mX7_bits (a0 : UInt64) : Int64 := (mJxe99ae_doubleToLongBits_ccdee a0)
set_option maxHeartbeats 4000000 in
set_option maxRecDepth 100000 in
theorem ct_X7_bits (l : Launch) (a0 : UInt64) : Met l yX7_bits wsX7_bits { frames := 2, cells := 0, slots := 0, locals := 42 } (fun v _ => v = ([.double a0] : List Value).toArray) (k2_QcV (.long (mX7_bits a0))) 0 0 (fun _ => False) := by
  refine Met.ofW (cc := cX7_bits) (maxL := 2) (ret := (some .long)) (by decide) rfl ?_
  intro p e s m args below meth c s₁ B hml hv
  subst hv
  have hx := B.exec
  have hb := B.bytes
  have hr := B.returns
  have hts := atoms_spec (ws := wsX7_bits) B.pre
  have hown : s.vm.findClass RX7 = some m.cls := findClass_of_methodNamed B.named
  have hlocks := B.notSynchronized
  have hl := lv_entry ([.double a0]) (n := 2) (Nat.le_of_ble_eq_true rfl)
  rw [lg_entry_eq]
  generalize (lg_sl ([.double a0]) ++ List.replicate (2 - (lg_sl ([.double a0])).length) Slot.unset).toArray = ls at hl ⊢
  have hl : lv_has ls 2 [(0, .double a0)] := hl
  refine lv_dload_n hx hb dX7_bits_0 rfl (lv_at hl 0 rfl) ?_
  refine hc_S (As := [.double a0]) (rest := []) ⟨hx, hb, hml, hown, hts⟩ (ct_Jxe99ae_doubleToLongBits_ccdee l a0) (va_cwS 1 hts gX7_bits_Jxe99ae_doubleToLongBits_ccdee rfl rfl rfl (by decide +kernel) ⟨Nat.le_of_ble_eq_true rfl, Nat.le_of_ble_eq_true rfl⟩) rfl hl.1 rfl (Nat.le_of_ble_eq_true rfl) dX7_bits_1 ⟨Nat.le_of_ble_eq_true rfl, Nat.le_of_ble_eq_true rfl⟩ ?_
  exact W.lret (v := (mJxe99ae_doubleToLongBits_ccdee a0)) hx hb hr (fun t ht _ => ⟨by rw [mX7_bits], ht⟩) (fun _ h => by cases h) dX7_bits_4

def mX7_bits4 (a0 : UInt32) : Int32 := (mJxf58ca_floatToIntBits_5c35a a0)
set_option maxHeartbeats 4000000 in
set_option maxRecDepth 100000 in
theorem ct_X7_bits4 (l : Launch) (a0 : UInt32) : Met l yX7_bits4 wsX7_bits4 { frames := 2, cells := 0, slots := 0, locals := 40 } (fun v _ => v = ([.float a0] : List Value).toArray) (k2_QcV (.int (mX7_bits4 a0))) 0 0 (fun _ => False) := by
  refine Met.ofW (cc := cX7_bits4) (maxL := 1) (ret := (some .int)) (by decide) rfl ?_
  intro p e s m args below meth c s₁ B hml hv
  subst hv
  have hx := B.exec
  have hb := B.bytes
  have hr := B.returns
  have hts := atoms_spec (ws := wsX7_bits4) B.pre
  have hown : s.vm.findClass RX7 = some m.cls := findClass_of_methodNamed B.named
  have hlocks := B.notSynchronized
  have hl := lv_entry ([.float a0]) (n := 1) (Nat.le_of_ble_eq_true rfl)
  rw [lg_entry_eq]
  generalize (lg_sl ([.float a0]) ++ List.replicate (1 - (lg_sl ([.float a0])).length) Slot.unset).toArray = ls at hl ⊢
  have hl : lv_has ls 1 [(0, .float a0)] := hl
  refine lv_fload_n hx hb dX7_bits4_0 rfl (lv_at hl 0 rfl) ?_
  refine hc_S (As := [.float a0]) (rest := []) ⟨hx, hb, hml, hown, hts⟩ (ct_Jxf58ca_floatToIntBits_5c35a l a0) (va_cwS 1 hts gX7_bits4_Jxf58ca_floatToIntBits_5c35a rfl rfl rfl (by decide +kernel) ⟨Nat.le_of_ble_eq_true rfl, Nat.le_of_ble_eq_true rfl⟩) rfl hl.1 rfl (Nat.le_of_ble_eq_true rfl) dX7_bits4_1 ⟨Nat.le_of_ble_eq_true rfl, Nat.le_of_ble_eq_true rfl⟩ ?_
  exact W.iret (v := (mJxf58ca_floatToIntBits_5c35a a0)) hx hb hr (fun t ht _ => ⟨by rw [mX7_bits4], ht⟩) (fun _ h => by cases h) dX7_bits4_4

def mX7_size (a0 : Int64) : Int64 := (a0 &&& (9223372036854775807 : Int64))
set_option maxHeartbeats 4000000 in
set_option maxRecDepth 100000 in
theorem ct_X7_size (l : Launch) (a0 : Int64) : Met l yX7_size wsX7_size { frames := 0, cells := 0, slots := 0, locals := 0 } (fun v _ => v = ([.long a0] : List Value).toArray) (k2_QcV (.long (mX7_size a0))) 0 0 (fun _ => False) := by
  refine Met.ofW (cc := cX7_size) (maxL := 2) (ret := (some .long)) (by decide) rfl ?_
  intro p e s m args below meth c s₁ B hml hv
  subst hv
  have hx := B.exec
  have hb := B.bytes
  have hr := B.returns
  have hts := atoms_spec (ws := wsX7_size) B.pre
  have hown : s.vm.findClass RX7 = some m.cls := findClass_of_methodNamed B.named
  have hlocks := B.notSynchronized
  have hl := lv_entry ([.long a0]) (n := 2) (Nat.le_of_ble_eq_true rfl)
  rw [lg_entry_eq]
  generalize (lg_sl ([.long a0]) ++ List.replicate (2 - (lg_sl ([.long a0])).length) Slot.unset).toArray = ls at hl ⊢
  have hl : lv_has ls 2 [(0, .long a0)] := hl
  refine lv_lload_n hx hb dX7_size_0 rfl (lv_at hl 0 rfl) ?_
  refine lv_ldc2 (v := (9223372036854775807 : Int64)) hx hb hown (hts (.constantLong RX7 72 (9223372036854775807)) (by decide +kernel)) dX7_size_1 ?_
  refine lv_land hx hb dX7_size_4 ?_
  exact W.lret (v := (a0 &&& (9223372036854775807 : Int64))) hx hb hr (fun t ht _ => ⟨by rw [mX7_size], ht⟩) (fun _ h => by cases h) dX7_size_5

def mX7_isNone (a0 : Int64) : Int32 := (if (lg_cmp (mX7_size a0) (9218868437227405312 : Int64)) ≤ 0 then (0 : Int32) else (1 : Int32))
set_option maxHeartbeats 4000000 in
set_option maxRecDepth 100000 in
theorem ct_X7_isNone (l : Launch) (a0 : Int64) : Met l yX7_isNone wsX7_isNone { frames := 1, cells := 0, slots := 0, locals := 21 } (fun v _ => v = ([.long a0] : List Value).toArray) (k2_QcV (.int (mX7_isNone a0))) 0 0 (fun _ => False) := by
  refine Met.ofW (cc := cX7_isNone) (maxL := 2) (ret := (some .boolean)) (by decide) rfl ?_
  intro p e s m args below meth c s₁ B hml hv
  subst hv
  have hx := B.exec
  have hb := B.bytes
  have hr := B.returns
  have hts := atoms_spec (ws := wsX7_isNone) B.pre
  have hown : s.vm.findClass RX7 = some m.cls := findClass_of_methodNamed B.named
  have hlocks := B.notSynchronized
  have hl := lv_entry ([.long a0]) (n := 2) (Nat.le_of_ble_eq_true rfl)
  rw [lg_entry_eq]
  generalize (lg_sl ([.long a0]) ++ List.replicate (2 - (lg_sl ([.long a0])).length) Slot.unset).toArray = ls at hl ⊢
  have hl : lv_has ls 2 [(0, .long a0)] := hl
  refine lv_lload_n hx hb dX7_isNone_0 rfl (lv_at hl 0 rfl) ?_
  refine hc_S (As := [.long a0]) (rest := []) ⟨hx, hb, hml, hown, hts⟩ (ct_X7_size l a0) (va_cwS 1 hts gX7_isNone_X7_size rfl rfl rfl (by decide +kernel) ⟨Nat.le_of_ble_eq_true rfl, Nat.le_of_ble_eq_true rfl⟩) rfl hl.1 rfl (Nat.le_of_ble_eq_true rfl) dX7_isNone_1 ⟨Nat.le_of_ble_eq_true rfl, Nat.le_of_ble_eq_true rfl⟩ ?_
  refine lv_ldc2 (v := (9218868437227405312 : Int64)) hx hb hown (hts (.constantLong RX7 23 (9218868437227405312)) (by decide +kernel)) dX7_isNone_4 ?_
  refine W.lcmp hx hb dX7_isNone_7 ?_
  refine lv_if_le (tgt := 15) hx hb dX7_isNone_8 (by decide) (fun c_1 => ?_) (fun c_1 => ?_)
  · refine lv_iconst (v := (0 : Int32)) hx hb dX7_isNone_15 (by decide) ?_
    exact W.zret (v := (0 : Int32)) hx hb hr rfl (fun t ht _ => ⟨by rw [mX7_isNone, if_pos c_1], ht⟩) (fun _ h => by cases h) dX7_isNone_16
  · refine lv_iconst (v := (1 : Int32)) hx hb dX7_isNone_11 (by decide) ?_
    refine lv_goto (tgt := 16) hx hb dX7_isNone_12 (by decide) ?_
    exact W.zret (v := (1 : Int32)) hx hb hr rfl (fun t ht _ => ⟨by rw [mX7_isNone, if_neg c_1], ht⟩) (fun _ h => by cases h) dX7_isNone_16

def mX7_isInfinite (a0 : Int64) : Int32 := (if (lg_cmp (mX7_size a0) (9218868437227405312 : Int64)) = 0 then (1 : Int32) else (0 : Int32))
set_option maxHeartbeats 4000000 in
set_option maxRecDepth 100000 in
theorem ct_X7_isInfinite (l : Launch) (a0 : Int64) : Met l yX7_isInfinite wsX7_isInfinite { frames := 1, cells := 0, slots := 0, locals := 21 } (fun v _ => v = ([.long a0] : List Value).toArray) (k2_QcV (.int (mX7_isInfinite a0))) 0 0 (fun _ => False) := by
  refine Met.ofW (cc := cX7_isInfinite) (maxL := 2) (ret := (some .boolean)) (by decide) rfl ?_
  intro p e s m args below meth c s₁ B hml hv
  subst hv
  have hx := B.exec
  have hb := B.bytes
  have hr := B.returns
  have hts := atoms_spec (ws := wsX7_isInfinite) B.pre
  have hown : s.vm.findClass RX7 = some m.cls := findClass_of_methodNamed B.named
  have hlocks := B.notSynchronized
  have hl := lv_entry ([.long a0]) (n := 2) (Nat.le_of_ble_eq_true rfl)
  rw [lg_entry_eq]
  generalize (lg_sl ([.long a0]) ++ List.replicate (2 - (lg_sl ([.long a0])).length) Slot.unset).toArray = ls at hl ⊢
  have hl : lv_has ls 2 [(0, .long a0)] := hl
  refine lv_lload_n hx hb dX7_isInfinite_0 rfl (lv_at hl 0 rfl) ?_
  refine hc_S (As := [.long a0]) (rest := []) ⟨hx, hb, hml, hown, hts⟩ (ct_X7_size l a0) (va_cwS 1 hts gX7_isInfinite_X7_size rfl rfl rfl (by decide +kernel) ⟨Nat.le_of_ble_eq_true rfl, Nat.le_of_ble_eq_true rfl⟩) rfl hl.1 rfl (Nat.le_of_ble_eq_true rfl) dX7_isInfinite_1 ⟨Nat.le_of_ble_eq_true rfl, Nat.le_of_ble_eq_true rfl⟩ ?_
  refine lv_ldc2 (v := (9218868437227405312 : Int64)) hx hb hown (hts (.constantLong RX7 23 (9218868437227405312)) (by decide +kernel)) dX7_isInfinite_4 ?_
  refine W.lcmp hx hb dX7_isInfinite_7 ?_
  refine lv_if_ne (tgt := 15) hx hb dX7_isInfinite_8 (by decide) (fun c_1 => ?_) (fun c_1 => ?_)
  · refine lv_iconst (v := (0 : Int32)) hx hb dX7_isInfinite_15 (by decide) ?_
    exact W.zret (v := (0 : Int32)) hx hb hr rfl (fun t ht _ => ⟨by rw [mX7_isInfinite, if_neg c_1], ht⟩) (fun _ h => by cases h) dX7_isInfinite_16
  · refine lv_iconst (v := (1 : Int32)) hx hb dX7_isInfinite_11 (by decide) ?_
    refine lv_goto (tgt := 16) hx hb dX7_isInfinite_12 (by decide) ?_
    exact W.zret (v := (1 : Int32)) hx hb hr rfl (fun t ht _ => ⟨by rw [mX7_isInfinite, if_pos c_1], ht⟩) (fun _ h => by cases h) dX7_isInfinite_16

def mX7_order (a0 : Int64) : Int64 := (if 0 ≤ (lg_cmp a0 (0 : Int64)) then a0 else ((-1 : Int64) - (mX7_size a0)))
set_option maxHeartbeats 4000000 in
set_option maxRecDepth 100000 in
theorem ct_X7_order (l : Launch) (a0 : Int64) : Met l yX7_order wsX7_order { frames := 1, cells := 0, slots := 0, locals := 21 } (fun v _ => v = ([.long a0] : List Value).toArray) (k2_QcV (.long (mX7_order a0))) 0 0 (fun _ => False) := by
  refine Met.ofW (cc := cX7_order) (maxL := 2) (ret := (some .long)) (by decide) rfl ?_
  intro p e s m args below meth c s₁ B hml hv
  subst hv
  have hx := B.exec
  have hb := B.bytes
  have hr := B.returns
  have hts := atoms_spec (ws := wsX7_order) B.pre
  have hown : s.vm.findClass RX7 = some m.cls := findClass_of_methodNamed B.named
  have hlocks := B.notSynchronized
  have hl := lv_entry ([.long a0]) (n := 2) (Nat.le_of_ble_eq_true rfl)
  rw [lg_entry_eq]
  generalize (lg_sl ([.long a0]) ++ List.replicate (2 - (lg_sl ([.long a0])).length) Slot.unset).toArray = ls at hl ⊢
  have hl : lv_has ls 2 [(0, .long a0)] := hl
  refine lv_lload_n hx hb dX7_order_0 rfl (lv_at hl 0 rfl) ?_
  refine lv_lconst (v := (0 : Int64)) hx hb dX7_order_1 (by decide) ?_
  refine W.lcmp hx hb dX7_order_2 ?_
  refine lv_if_ge (tgt := 17) hx hb dX7_order_3 (by decide) (fun c_1 => ?_) (fun c_1 => ?_)
  · refine lv_lload_n hx hb dX7_order_17 rfl (lv_at hl 0 rfl) ?_
    exact W.lret (v := a0) hx hb hr (fun t ht _ => ⟨by rw [mX7_order, if_pos c_1], ht⟩) (fun _ h => by cases h) dX7_order_18
  · refine lv_ldc2 (v := (-1 : Int64)) hx hb hown (hts (.constantLong RX7 78 (-1)) (by decide +kernel)) dX7_order_6 ?_
    refine lv_lload_n hx hb dX7_order_9 rfl (lv_at hl 0 rfl) ?_
    refine hc_S (As := [.long a0]) (rest := [.long (-1 : Int64)]) ⟨hx, hb, hml, hown, hts⟩ (ct_X7_size l a0) (va_cwS 1 hts gX7_order_X7_size rfl rfl rfl (by decide +kernel) ⟨Nat.le_of_ble_eq_true rfl, Nat.le_of_ble_eq_true rfl⟩) rfl hl.1 rfl (Nat.le_of_ble_eq_true rfl) dX7_order_10 ⟨Nat.le_of_ble_eq_true rfl, Nat.le_of_ble_eq_true rfl⟩ ?_
    refine lv_lsub hx hb dX7_order_13 ?_
    refine lv_goto (tgt := 18) hx hb dX7_order_14 (by decide) ?_
    exact W.lret (v := ((-1 : Int64) - (mX7_size a0))) hx hb hr (fun t ht _ => ⟨by rw [mX7_order, if_neg c_1], ht⟩) (fun _ h => by cases h) dX7_order_18

def mX7_lesser (a0 : Int64) (a1 : Int64) : Int64 := (if 0 ≤ (lg_cmp (mX7_order a0) (mX7_order a1)) then a1 else a0)
set_option maxHeartbeats 4000000 in
set_option maxRecDepth 100000 in
theorem ct_X7_lesser (l : Launch) (a0 : Int64) (a1 : Int64) : Met l yX7_lesser wsX7_lesser { frames := 2, cells := 0, slots := 0, locals := 42 } (fun v _ => v = ([.long a0, .long a1] : List Value).toArray) (k2_QcV (.long (mX7_lesser a0 a1))) 0 0 (fun _ => False) := by
  refine Met.ofW (cc := cX7_lesser) (maxL := 4) (ret := (some .long)) (by decide) rfl ?_
  intro p e s m args below meth c s₁ B hml hv
  subst hv
  have hx := B.exec
  have hb := B.bytes
  have hr := B.returns
  have hts := atoms_spec (ws := wsX7_lesser) B.pre
  have hown : s.vm.findClass RX7 = some m.cls := findClass_of_methodNamed B.named
  have hlocks := B.notSynchronized
  have hl := lv_entry ([.long a0, .long a1]) (n := 4) (Nat.le_of_ble_eq_true rfl)
  rw [lg_entry_eq]
  generalize (lg_sl ([.long a0, .long a1]) ++ List.replicate (4 - (lg_sl ([.long a0, .long a1])).length) Slot.unset).toArray = ls at hl ⊢
  have hl : lv_has ls 4 [(0, .long a0), (2, .long a1)] := hl
  refine lv_lload_n hx hb dX7_lesser_0 rfl (lv_at hl 0 rfl) ?_
  refine hc_S (As := [.long a0]) (rest := []) ⟨hx, hb, hml, hown, hts⟩ (ct_X7_order l a0) (va_cwS 1 hts gX7_lesser_X7_order rfl rfl rfl (by decide +kernel) ⟨Nat.le_of_ble_eq_true rfl, Nat.le_of_ble_eq_true rfl⟩) rfl hl.1 rfl (Nat.le_of_ble_eq_true rfl) dX7_lesser_1 ⟨Nat.le_of_ble_eq_true rfl, Nat.le_of_ble_eq_true rfl⟩ ?_
  refine lv_lload_n hx hb dX7_lesser_4 rfl (lv_at hl 1 rfl) ?_
  refine hc_S (As := [.long a1]) (rest := [.long (mX7_order a0)]) ⟨hx, hb, hml, hown, hts⟩ (ct_X7_order l a1) (va_cwS 1 hts gX7_lesser_X7_order rfl rfl rfl (by decide +kernel) ⟨Nat.le_of_ble_eq_true rfl, Nat.le_of_ble_eq_true rfl⟩) rfl hl.1 rfl (Nat.le_of_ble_eq_true rfl) dX7_lesser_5 ⟨Nat.le_of_ble_eq_true rfl, Nat.le_of_ble_eq_true rfl⟩ ?_
  refine W.lcmp hx hb dX7_lesser_8 ?_
  refine lv_if_ge (tgt := 16) hx hb dX7_lesser_9 (by decide) (fun c_1 => ?_) (fun c_1 => ?_)
  · refine lv_lload_n hx hb dX7_lesser_16 rfl (lv_at hl 1 rfl) ?_
    exact W.lret (v := a1) hx hb hr (fun t ht _ => ⟨by rw [mX7_lesser, if_pos c_1], ht⟩) (fun _ h => by cases h) dX7_lesser_17
  · refine lv_lload_n hx hb dX7_lesser_12 rfl (lv_at hl 0 rfl) ?_
    refine lv_goto (tgt := 17) hx hb dX7_lesser_13 (by decide) ?_
    exact W.lret (v := a0) hx hb hr (fun t ht _ => ⟨by rw [mX7_lesser, if_neg c_1], ht⟩) (fun _ h => by cases h) dX7_lesser_17

def mX7_greater (a0 : Int64) (a1 : Int64) : Int64 := (if (lg_cmp (mX7_order a0) (mX7_order a1)) ≤ 0 then a1 else a0)
set_option maxHeartbeats 4000000 in
set_option maxRecDepth 100000 in
theorem ct_X7_greater (l : Launch) (a0 : Int64) (a1 : Int64) : Met l yX7_greater wsX7_greater { frames := 2, cells := 0, slots := 0, locals := 42 } (fun v _ => v = ([.long a0, .long a1] : List Value).toArray) (k2_QcV (.long (mX7_greater a0 a1))) 0 0 (fun _ => False) := by
  refine Met.ofW (cc := cX7_greater) (maxL := 4) (ret := (some .long)) (by decide) rfl ?_
  intro p e s m args below meth c s₁ B hml hv
  subst hv
  have hx := B.exec
  have hb := B.bytes
  have hr := B.returns
  have hts := atoms_spec (ws := wsX7_greater) B.pre
  have hown : s.vm.findClass RX7 = some m.cls := findClass_of_methodNamed B.named
  have hlocks := B.notSynchronized
  have hl := lv_entry ([.long a0, .long a1]) (n := 4) (Nat.le_of_ble_eq_true rfl)
  rw [lg_entry_eq]
  generalize (lg_sl ([.long a0, .long a1]) ++ List.replicate (4 - (lg_sl ([.long a0, .long a1])).length) Slot.unset).toArray = ls at hl ⊢
  have hl : lv_has ls 4 [(0, .long a0), (2, .long a1)] := hl
  refine lv_lload_n hx hb dX7_greater_0 rfl (lv_at hl 0 rfl) ?_
  refine hc_S (As := [.long a0]) (rest := []) ⟨hx, hb, hml, hown, hts⟩ (ct_X7_order l a0) (va_cwS 1 hts gX7_greater_X7_order rfl rfl rfl (by decide +kernel) ⟨Nat.le_of_ble_eq_true rfl, Nat.le_of_ble_eq_true rfl⟩) rfl hl.1 rfl (Nat.le_of_ble_eq_true rfl) dX7_greater_1 ⟨Nat.le_of_ble_eq_true rfl, Nat.le_of_ble_eq_true rfl⟩ ?_
  refine lv_lload_n hx hb dX7_greater_4 rfl (lv_at hl 1 rfl) ?_
  refine hc_S (As := [.long a1]) (rest := [.long (mX7_order a0)]) ⟨hx, hb, hml, hown, hts⟩ (ct_X7_order l a1) (va_cwS 1 hts gX7_greater_X7_order rfl rfl rfl (by decide +kernel) ⟨Nat.le_of_ble_eq_true rfl, Nat.le_of_ble_eq_true rfl⟩) rfl hl.1 rfl (Nat.le_of_ble_eq_true rfl) dX7_greater_5 ⟨Nat.le_of_ble_eq_true rfl, Nat.le_of_ble_eq_true rfl⟩ ?_
  refine W.lcmp hx hb dX7_greater_8 ?_
  refine lv_if_le (tgt := 16) hx hb dX7_greater_9 (by decide) (fun c_1 => ?_) (fun c_1 => ?_)
  · refine lv_lload_n hx hb dX7_greater_16 rfl (lv_at hl 1 rfl) ?_
    exact W.lret (v := a1) hx hb hr (fun t ht _ => ⟨by rw [mX7_greater, if_pos c_1], ht⟩) (fun _ h => by cases h) dX7_greater_17
  · refine lv_lload_n hx hb dX7_greater_12 rfl (lv_at hl 0 rfl) ?_
    refine lv_goto (tgt := 17) hx hb dX7_greater_13 (by decide) ?_
    exact W.lret (v := a0) hx hb hr (fun t ht _ => ⟨by rw [mX7_greater, if_neg c_1], ht⟩) (fun _ h => by cases h) dX7_greater_17

def mX7_isBelow (a0 : Int64) (a1 : Int64) : Int32 := (if 0 ≤ (lg_cmp (mX7_order a0) (mX7_order a1)) then (0 : Int32) else (if (lg_cmp (mX7_size a0) (0 : Int64)) = 0 then (if (lg_cmp (mX7_size a1) (0 : Int64)) = 0 then (0 : Int32) else (1 : Int32)) else (1 : Int32)))
set_option maxHeartbeats 4000000 in
set_option maxRecDepth 100000 in
theorem ct_X7_isBelow (l : Launch) (a0 : Int64) (a1 : Int64) : Met l yX7_isBelow wsX7_isBelow { frames := 2, cells := 0, slots := 0, locals := 42 } (fun v _ => v = ([.long a0, .long a1] : List Value).toArray) (k2_QcV (.int (mX7_isBelow a0 a1))) 0 0 (fun _ => False) := by
  refine Met.ofW (cc := cX7_isBelow) (maxL := 4) (ret := (some .boolean)) (by decide) rfl ?_
  intro p e s m args below meth c s₁ B hml hv
  subst hv
  have hx := B.exec
  have hb := B.bytes
  have hr := B.returns
  have hts := atoms_spec (ws := wsX7_isBelow) B.pre
  have hown : s.vm.findClass RX7 = some m.cls := findClass_of_methodNamed B.named
  have hlocks := B.notSynchronized
  have hl := lv_entry ([.long a0, .long a1]) (n := 4) (Nat.le_of_ble_eq_true rfl)
  rw [lg_entry_eq]
  generalize (lg_sl ([.long a0, .long a1]) ++ List.replicate (4 - (lg_sl ([.long a0, .long a1])).length) Slot.unset).toArray = ls at hl ⊢
  have hl : lv_has ls 4 [(0, .long a0), (2, .long a1)] := hl
  refine lv_lload_n hx hb dX7_isBelow_0 rfl (lv_at hl 0 rfl) ?_
  refine hc_S (As := [.long a0]) (rest := []) ⟨hx, hb, hml, hown, hts⟩ (ct_X7_order l a0) (va_cwS 1 hts gX7_isBelow_X7_order rfl rfl rfl (by decide +kernel) ⟨Nat.le_of_ble_eq_true rfl, Nat.le_of_ble_eq_true rfl⟩) rfl hl.1 rfl (Nat.le_of_ble_eq_true rfl) dX7_isBelow_1 ⟨Nat.le_of_ble_eq_true rfl, Nat.le_of_ble_eq_true rfl⟩ ?_
  refine lv_lload_n hx hb dX7_isBelow_4 rfl (lv_at hl 1 rfl) ?_
  refine hc_S (As := [.long a1]) (rest := [.long (mX7_order a0)]) ⟨hx, hb, hml, hown, hts⟩ (ct_X7_order l a1) (va_cwS 1 hts gX7_isBelow_X7_order rfl rfl rfl (by decide +kernel) ⟨Nat.le_of_ble_eq_true rfl, Nat.le_of_ble_eq_true rfl⟩) rfl hl.1 rfl (Nat.le_of_ble_eq_true rfl) dX7_isBelow_5 ⟨Nat.le_of_ble_eq_true rfl, Nat.le_of_ble_eq_true rfl⟩ ?_
  refine W.lcmp hx hb dX7_isBelow_8 ?_
  refine lv_if_ge (tgt := 34) hx hb dX7_isBelow_9 (by decide) (fun c_1 => ?_) (fun c_1 => ?_)
  · refine lv_iconst (v := (0 : Int32)) hx hb dX7_isBelow_34 (by decide) ?_
    exact W.zret (v := (0 : Int32)) hx hb hr rfl (fun t ht _ => ⟨by rw [mX7_isBelow, if_pos c_1], ht⟩) (fun _ h => by cases h) dX7_isBelow_35
  · refine lv_lload_n hx hb dX7_isBelow_12 rfl (lv_at hl 0 rfl) ?_
    refine hc_S (As := [.long a0]) (rest := []) ⟨hx, hb, hml, hown, hts⟩ (ct_X7_size l a0) (va_cwS 1 hts gX7_isBelow_X7_size rfl rfl rfl (by decide +kernel) ⟨Nat.le_of_ble_eq_true rfl, Nat.le_of_ble_eq_true rfl⟩) rfl hl.1 rfl (Nat.le_of_ble_eq_true rfl) dX7_isBelow_13 ⟨Nat.le_of_ble_eq_true rfl, Nat.le_of_ble_eq_true rfl⟩ ?_
    refine lv_lconst (v := (0 : Int64)) hx hb dX7_isBelow_16 (by decide) ?_
    refine W.lcmp hx hb dX7_isBelow_17 ?_
    refine lv_if_ne (tgt := 30) hx hb dX7_isBelow_18 (by decide) (fun c_2 => ?_) (fun c_2 => ?_)
    · refine lv_iconst (v := (1 : Int32)) hx hb dX7_isBelow_30 (by decide) ?_
      refine lv_goto (tgt := 35) hx hb dX7_isBelow_31 (by decide) ?_
      exact W.zret (v := (1 : Int32)) hx hb hr rfl (fun t ht _ => ⟨by rw [mX7_isBelow, if_neg c_1, if_neg c_2], ht⟩) (fun _ h => by cases h) dX7_isBelow_35
    · refine lv_lload_n hx hb dX7_isBelow_21 rfl (lv_at hl 1 rfl) ?_
      refine hc_S (As := [.long a1]) (rest := []) ⟨hx, hb, hml, hown, hts⟩ (ct_X7_size l a1) (va_cwS 1 hts gX7_isBelow_X7_size rfl rfl rfl (by decide +kernel) ⟨Nat.le_of_ble_eq_true rfl, Nat.le_of_ble_eq_true rfl⟩) rfl hl.1 rfl (Nat.le_of_ble_eq_true rfl) dX7_isBelow_22 ⟨Nat.le_of_ble_eq_true rfl, Nat.le_of_ble_eq_true rfl⟩ ?_
      refine lv_lconst (v := (0 : Int64)) hx hb dX7_isBelow_25 (by decide) ?_
      refine W.lcmp hx hb dX7_isBelow_26 ?_
      refine lv_if_eq (tgt := 34) hx hb dX7_isBelow_27 (by decide) (fun c_3 => ?_) (fun c_3 => ?_)
      · refine lv_iconst (v := (0 : Int32)) hx hb dX7_isBelow_34 (by decide) ?_
        exact W.zret (v := (0 : Int32)) hx hb hr rfl (fun t ht _ => ⟨by rw [mX7_isBelow, if_neg c_1, if_pos c_2, if_pos c_3], ht⟩) (fun _ h => by cases h) dX7_isBelow_35
      · refine lv_iconst (v := (1 : Int32)) hx hb dX7_isBelow_30 (by decide) ?_
        refine lv_goto (tgt := 35) hx hb dX7_isBelow_31 (by decide) ?_
        exact W.zret (v := (1 : Int32)) hx hb hr rfl (fun t ht _ => ⟨by rw [mX7_isBelow, if_neg c_1, if_pos c_2, if_neg c_3], ht⟩) (fun _ h => by cases h) dX7_isBelow_35

def mX7_isOdd (a0 : Int64) (a1 : Int32) : Int32 := (if a1 = 0 then (1 : Int32) else (if (lg_cmp ((a0 >>> (((52 : Int32) - a1).toInt64 &&& 63)) &&& (1 : Int64)) (1 : Int64)) = 0 then (1 : Int32) else (0 : Int32)))
set_option maxHeartbeats 4000000 in
set_option maxRecDepth 100000 in
theorem ct_X7_isOdd (l : Launch) (a0 : Int64) (a1 : Int32) : Met l yX7_isOdd wsX7_isOdd { frames := 0, cells := 0, slots := 0, locals := 0 } (fun v _ => v = ([.long a0, .int a1] : List Value).toArray) (k2_QcV (.int (mX7_isOdd a0 a1))) 0 0 (fun _ => False) := by
  refine Met.ofW (cc := cX7_isOdd) (maxL := 3) (ret := (some .boolean)) (by decide) rfl ?_
  intro p e s m args below meth c s₁ B hml hv
  subst hv
  have hx := B.exec
  have hb := B.bytes
  have hr := B.returns
  have hts := atoms_spec (ws := wsX7_isOdd) B.pre
  have hown : s.vm.findClass RX7 = some m.cls := findClass_of_methodNamed B.named
  have hlocks := B.notSynchronized
  have hl := lv_entry ([.long a0, .int a1]) (n := 3) (Nat.le_of_ble_eq_true rfl)
  rw [lg_entry_eq]
  generalize (lg_sl ([.long a0, .int a1]) ++ List.replicate (3 - (lg_sl ([.long a0, .int a1])).length) Slot.unset).toArray = ls at hl ⊢
  have hl : lv_has ls 3 [(0, .long a0), (2, .int a1)] := hl
  refine lv_iload_n hx hb dX7_isOdd_0 rfl (lv_at hl 1 rfl) ?_
  refine lv_if_eq (tgt := 17) hx hb dX7_isOdd_1 (by decide) (fun c_1 => ?_) (fun c_1 => ?_)
  · refine lv_iconst (v := (1 : Int32)) hx hb dX7_isOdd_17 (by decide) ?_
    refine lv_goto (tgt := 22) hx hb dX7_isOdd_18 (by decide) ?_
    exact W.zret (v := (1 : Int32)) hx hb hr rfl (fun t ht _ => ⟨by rw [mX7_isOdd, if_pos c_1], ht⟩) (fun _ h => by cases h) dX7_isOdd_22
  · refine lv_lload_n hx hb dX7_isOdd_4 rfl (lv_at hl 0 rfl) ?_
    refine lv_bipush (v := (52 : Int32)) hx hb dX7_isOdd_5 (by decide) ?_
    refine lv_iload_n hx hb dX7_isOdd_7 rfl (lv_at hl 1 rfl) ?_
    refine lv_isub hx hb dX7_isOdd_8 ?_
    refine lv_lshr hx hb dX7_isOdd_9 rfl ?_
    refine lv_lconst (v := (1 : Int64)) hx hb dX7_isOdd_10 (by decide) ?_
    refine lv_land hx hb dX7_isOdd_11 ?_
    refine lv_lconst (v := (1 : Int64)) hx hb dX7_isOdd_12 (by decide) ?_
    refine W.lcmp hx hb dX7_isOdd_13 ?_
    refine lv_if_ne (tgt := 21) hx hb dX7_isOdd_14 (by decide) (fun c_2 => ?_) (fun c_2 => ?_)
    · refine lv_iconst (v := (0 : Int32)) hx hb dX7_isOdd_21 (by decide) ?_
      exact W.zret (v := (0 : Int32)) hx hb hr rfl (fun t ht _ => ⟨by rw [mX7_isOdd, if_neg c_1, if_neg c_2], ht⟩) (fun _ h => by cases h) dX7_isOdd_22
    · refine lv_iconst (v := (1 : Int32)) hx hb dX7_isOdd_17 (by decide) ?_
      refine lv_goto (tgt := 22) hx hb dX7_isOdd_18 (by decide) ?_
      exact W.zret (v := (1 : Int32)) hx hb hr rfl (fun t ht _ => ⟨by rw [mX7_isOdd, if_neg c_1, if_pos c_2], ht⟩) (fun _ h => by cases h) dX7_isOdd_22

def mX7_whole32 (a0 : UInt64) : Int32 := (if (Op.cmpValue (FP.dcmp a0 (4746794007244308480 : UInt64)) .l) < 0 then (if 0 < (Op.cmpValue (FP.dcmp a0 (13970166044103278592 : UInt64)) .g) then (FP.d2i a0) else (-2147483648 : Int32)) else (2147483647 : Int32))
set_option maxHeartbeats 4000000 in
set_option maxRecDepth 100000 in
theorem ct_X7_whole32 (l : Launch) (a0 : UInt64) : Met l yX7_whole32 wsX7_whole32 { frames := 0, cells := 0, slots := 0, locals := 0 } (fun v _ => v = ([.double a0] : List Value).toArray) (k2_QcV (.int (mX7_whole32 a0))) 0 0 (fun _ => False) := by
  refine Met.ofW (cc := cX7_whole32) (maxL := 2) (ret := (some .int)) (by decide) rfl ?_
  intro p e s m args below meth c s₁ B hml hv
  subst hv
  have hx := B.exec
  have hb := B.bytes
  have hr := B.returns
  have hts := atoms_spec (ws := wsX7_whole32) B.pre
  have hown : s.vm.findClass RX7 = some m.cls := findClass_of_methodNamed B.named
  have hlocks := B.notSynchronized
  have hl := lv_entry ([.double a0]) (n := 2) (Nat.le_of_ble_eq_true rfl)
  rw [lg_entry_eq]
  generalize (lg_sl ([.double a0]) ++ List.replicate (2 - (lg_sl ([.double a0])).length) Slot.unset).toArray = ls at hl ⊢
  have hl : lv_has ls 2 [(0, .double a0)] := hl
  refine lv_dload_n hx hb dX7_whole32_0 rfl (lv_at hl 0 rfl) ?_
  refine lv_ldc2d (v := (4746794007244308480 : UInt64)) hx hb hown (hts (.constantDouble RX7 93 (4746794007244308480)) (by decide +kernel)) dX7_whole32_1 ?_
  refine lv_dcmp hx hb dX7_whole32_4 ?_
  refine lv_if_lt (tgt := 13) hx hb dX7_whole32_5 (by decide) (fun c_1 => ?_) (fun c_1 => ?_)
  · refine lv_dload_n hx hb dX7_whole32_13 rfl (lv_at hl 0 rfl) ?_
    refine lv_ldc2d (v := (13970166044103278592 : UInt64)) hx hb hown (hts (.constantDouble RX7 96 (13970166044103278592)) (by decide +kernel)) dX7_whole32_14 ?_
    refine lv_dcmp hx hb dX7_whole32_17 ?_
    refine lv_if_gt (tgt := 26) hx hb dX7_whole32_18 (by decide) (fun c_2 => ?_) (fun c_2 => ?_)
    · refine lv_dload_n hx hb dX7_whole32_26 rfl (lv_at hl 0 rfl) ?_
      refine lv_d2i hx hb dX7_whole32_27 ?_
      exact W.iret (v := (FP.d2i a0)) hx hb hr (fun t ht _ => ⟨by rw [mX7_whole32, if_pos c_1, if_pos c_2], ht⟩) (fun _ h => by cases h) dX7_whole32_28
    · refine lv_ldc (v := (-2147483648 : Int32)) hx hb hown (hts (.constant RX7 98 (-2147483648)) (by decide +kernel)) dX7_whole32_21 ?_
      refine lv_goto (tgt := 28) hx hb dX7_whole32_23 (by decide) ?_
      exact W.iret (v := (-2147483648 : Int32)) hx hb hr (fun t ht _ => ⟨by rw [mX7_whole32, if_pos c_1, if_neg c_2], ht⟩) (fun _ h => by cases h) dX7_whole32_28
  · refine lv_ldc (v := (2147483647 : Int32)) hx hb hown (hts (.constant RX7 95 (2147483647)) (by decide +kernel)) dX7_whole32_8 ?_
    refine lv_goto (tgt := 28) hx hb dX7_whole32_10 (by decide) ?_
    exact W.iret (v := (2147483647 : Int32)) hx hb hr (fun t ht _ => ⟨by rw [mX7_whole32, if_neg c_1], ht⟩) (fun _ h => by cases h) dX7_whole32_28

def mX7_size4 (a0 : Int32) : Int32 := (a0 &&& (2147483647 : Int32))
set_option maxHeartbeats 4000000 in
set_option maxRecDepth 100000 in
theorem ct_X7_size4 (l : Launch) (a0 : Int32) : Met l yX7_size4 wsX7_size4 { frames := 0, cells := 0, slots := 0, locals := 0 } (fun v _ => v = ([.int a0] : List Value).toArray) (k2_QcV (.int (mX7_size4 a0))) 0 0 (fun _ => False) := by
  refine Met.ofW (cc := cX7_size4) (maxL := 1) (ret := (some .int)) (by decide) rfl ?_
  intro p e s m args below meth c s₁ B hml hv
  subst hv
  have hx := B.exec
  have hb := B.bytes
  have hr := B.returns
  have hts := atoms_spec (ws := wsX7_size4) B.pre
  have hown : s.vm.findClass RX7 = some m.cls := findClass_of_methodNamed B.named
  have hlocks := B.notSynchronized
  have hl := lv_entry ([.int a0]) (n := 1) (Nat.le_of_ble_eq_true rfl)
  rw [lg_entry_eq]
  generalize (lg_sl ([.int a0]) ++ List.replicate (1 - (lg_sl ([.int a0])).length) Slot.unset).toArray = ls at hl ⊢
  have hl : lv_has ls 1 [(0, .int a0)] := hl
  refine lv_iload_n hx hb dX7_size4_0 rfl (lv_at hl 0 rfl) ?_
  refine lv_ldc (v := (2147483647 : Int32)) hx hb hown (hts (.constant RX7 95 (2147483647)) (by decide +kernel)) dX7_size4_1 ?_
  refine lv_iand hx hb dX7_size4_3 ?_
  exact W.iret (v := (a0 &&& (2147483647 : Int32))) hx hb hr (fun t ht _ => ⟨by rw [mX7_size4], ht⟩) (fun _ h => by cases h) dX7_size4_4

def mX7_isNone4 (a0 : Int32) : Int32 := (if (mX7_size4 a0) ≤ (2139095040 : Int32) then (0 : Int32) else (1 : Int32))
set_option maxHeartbeats 4000000 in
set_option maxRecDepth 100000 in
theorem ct_X7_isNone4 (l : Launch) (a0 : Int32) : Met l yX7_isNone4 wsX7_isNone4 { frames := 1, cells := 0, slots := 0, locals := 20 } (fun v _ => v = ([.int a0] : List Value).toArray) (k2_QcV (.int (mX7_isNone4 a0))) 0 0 (fun _ => False) := by
  refine Met.ofW (cc := cX7_isNone4) (maxL := 1) (ret := (some .boolean)) (by decide) rfl ?_
  intro p e s m args below meth c s₁ B hml hv
  subst hv
  have hx := B.exec
  have hb := B.bytes
  have hr := B.returns
  have hts := atoms_spec (ws := wsX7_isNone4) B.pre
  have hown : s.vm.findClass RX7 = some m.cls := findClass_of_methodNamed B.named
  have hlocks := B.notSynchronized
  have hl := lv_entry ([.int a0]) (n := 1) (Nat.le_of_ble_eq_true rfl)
  rw [lg_entry_eq]
  generalize (lg_sl ([.int a0]) ++ List.replicate (1 - (lg_sl ([.int a0])).length) Slot.unset).toArray = ls at hl ⊢
  have hl : lv_has ls 1 [(0, .int a0)] := hl
  refine lv_iload_n hx hb dX7_isNone4_0 rfl (lv_at hl 0 rfl) ?_
  refine hc_S (As := [.int a0]) (rest := []) ⟨hx, hb, hml, hown, hts⟩ (ct_X7_size4 l a0) (va_cwS 1 hts gX7_isNone4_X7_size4 rfl rfl rfl (by decide +kernel) ⟨Nat.le_of_ble_eq_true rfl, Nat.le_of_ble_eq_true rfl⟩) rfl hl.1 rfl (Nat.le_of_ble_eq_true rfl) dX7_isNone4_1 ⟨Nat.le_of_ble_eq_true rfl, Nat.le_of_ble_eq_true rfl⟩ ?_
  refine lv_ldc (v := (2139095040 : Int32)) hx hb hown (hts (.constant RX7 38 (2139095040)) (by decide +kernel)) dX7_isNone4_4 ?_
  refine lv_icmp_le (tgt := 13) hx hb dX7_isNone4_6 (by decide) (fun c_1 => ?_) (fun c_1 => ?_)
  · refine lv_iconst (v := (0 : Int32)) hx hb dX7_isNone4_13 (by decide) ?_
    exact W.zret (v := (0 : Int32)) hx hb hr rfl (fun t ht _ => ⟨by rw [mX7_isNone4, if_pos c_1], ht⟩) (fun _ h => by cases h) dX7_isNone4_14
  · refine lv_iconst (v := (1 : Int32)) hx hb dX7_isNone4_9 (by decide) ?_
    refine lv_goto (tgt := 14) hx hb dX7_isNone4_10 (by decide) ?_
    exact W.zret (v := (1 : Int32)) hx hb hr rfl (fun t ht _ => ⟨by rw [mX7_isNone4, if_neg c_1], ht⟩) (fun _ h => by cases h) dX7_isNone4_14

def mX7_isInfinite4 (a0 : Int32) : Int32 := (if (mX7_size4 a0) = (2139095040 : Int32) then (1 : Int32) else (0 : Int32))
set_option maxHeartbeats 4000000 in
set_option maxRecDepth 100000 in
theorem ct_X7_isInfinite4 (l : Launch) (a0 : Int32) : Met l yX7_isInfinite4 wsX7_isInfinite4 { frames := 1, cells := 0, slots := 0, locals := 20 } (fun v _ => v = ([.int a0] : List Value).toArray) (k2_QcV (.int (mX7_isInfinite4 a0))) 0 0 (fun _ => False) := by
  refine Met.ofW (cc := cX7_isInfinite4) (maxL := 1) (ret := (some .boolean)) (by decide) rfl ?_
  intro p e s m args below meth c s₁ B hml hv
  subst hv
  have hx := B.exec
  have hb := B.bytes
  have hr := B.returns
  have hts := atoms_spec (ws := wsX7_isInfinite4) B.pre
  have hown : s.vm.findClass RX7 = some m.cls := findClass_of_methodNamed B.named
  have hlocks := B.notSynchronized
  have hl := lv_entry ([.int a0]) (n := 1) (Nat.le_of_ble_eq_true rfl)
  rw [lg_entry_eq]
  generalize (lg_sl ([.int a0]) ++ List.replicate (1 - (lg_sl ([.int a0])).length) Slot.unset).toArray = ls at hl ⊢
  have hl : lv_has ls 1 [(0, .int a0)] := hl
  refine lv_iload_n hx hb dX7_isInfinite4_0 rfl (lv_at hl 0 rfl) ?_
  refine hc_S (As := [.int a0]) (rest := []) ⟨hx, hb, hml, hown, hts⟩ (ct_X7_size4 l a0) (va_cwS 1 hts gX7_isInfinite4_X7_size4 rfl rfl rfl (by decide +kernel) ⟨Nat.le_of_ble_eq_true rfl, Nat.le_of_ble_eq_true rfl⟩) rfl hl.1 rfl (Nat.le_of_ble_eq_true rfl) dX7_isInfinite4_1 ⟨Nat.le_of_ble_eq_true rfl, Nat.le_of_ble_eq_true rfl⟩ ?_
  refine lv_ldc (v := (2139095040 : Int32)) hx hb hown (hts (.constant RX7 38 (2139095040)) (by decide +kernel)) dX7_isInfinite4_4 ?_
  refine lv_icmp_ne (tgt := 13) hx hb dX7_isInfinite4_6 (by decide) (fun c_1 => ?_) (fun c_1 => ?_)
  · refine lv_iconst (v := (0 : Int32)) hx hb dX7_isInfinite4_13 (by decide) ?_
    exact W.zret (v := (0 : Int32)) hx hb hr rfl (fun t ht _ => ⟨by rw [mX7_isInfinite4, if_neg c_1], ht⟩) (fun _ h => by cases h) dX7_isInfinite4_14
  · refine lv_iconst (v := (1 : Int32)) hx hb dX7_isInfinite4_9 (by decide) ?_
    refine lv_goto (tgt := 14) hx hb dX7_isInfinite4_10 (by decide) ?_
    exact W.zret (v := (1 : Int32)) hx hb hr rfl (fun t ht _ => ⟨by rw [mX7_isInfinite4, if_pos c_1], ht⟩) (fun _ h => by cases h) dX7_isInfinite4_14

def mX7_order4 (a0 : Int32) : Int32 := (if 0 ≤ a0 then a0 else ((-1 : Int32) - (mX7_size4 a0)))
set_option maxHeartbeats 4000000 in
set_option maxRecDepth 100000 in
theorem ct_X7_order4 (l : Launch) (a0 : Int32) : Met l yX7_order4 wsX7_order4 { frames := 1, cells := 0, slots := 0, locals := 20 } (fun v _ => v = ([.int a0] : List Value).toArray) (k2_QcV (.int (mX7_order4 a0))) 0 0 (fun _ => False) := by
  refine Met.ofW (cc := cX7_order4) (maxL := 1) (ret := (some .int)) (by decide) rfl ?_
  intro p e s m args below meth c s₁ B hml hv
  subst hv
  have hx := B.exec
  have hb := B.bytes
  have hr := B.returns
  have hts := atoms_spec (ws := wsX7_order4) B.pre
  have hown : s.vm.findClass RX7 = some m.cls := findClass_of_methodNamed B.named
  have hlocks := B.notSynchronized
  have hl := lv_entry ([.int a0]) (n := 1) (Nat.le_of_ble_eq_true rfl)
  rw [lg_entry_eq]
  generalize (lg_sl ([.int a0]) ++ List.replicate (1 - (lg_sl ([.int a0])).length) Slot.unset).toArray = ls at hl ⊢
  have hl : lv_has ls 1 [(0, .int a0)] := hl
  refine lv_iload_n hx hb dX7_order4_0 rfl (lv_at hl 0 rfl) ?_
  refine lv_if_ge (tgt := 13) hx hb dX7_order4_1 (by decide) (fun c_1 => ?_) (fun c_1 => ?_)
  · refine lv_iload_n hx hb dX7_order4_13 rfl (lv_at hl 0 rfl) ?_
    exact W.iret (v := a0) hx hb hr (fun t ht _ => ⟨by rw [mX7_order4, if_pos c_1], ht⟩) (fun _ h => by cases h) dX7_order4_14
  · refine lv_iconst (v := (-1 : Int32)) hx hb dX7_order4_4 (by decide) ?_
    refine lv_iload_n hx hb dX7_order4_5 rfl (lv_at hl 0 rfl) ?_
    refine hc_S (As := [.int a0]) (rest := [.int (-1 : Int32)]) ⟨hx, hb, hml, hown, hts⟩ (ct_X7_size4 l a0) (va_cwS 1 hts gX7_order4_X7_size4 rfl rfl rfl (by decide +kernel) ⟨Nat.le_of_ble_eq_true rfl, Nat.le_of_ble_eq_true rfl⟩) rfl hl.1 rfl (Nat.le_of_ble_eq_true rfl) dX7_order4_6 ⟨Nat.le_of_ble_eq_true rfl, Nat.le_of_ble_eq_true rfl⟩ ?_
    refine lv_isub hx hb dX7_order4_9 ?_
    refine lv_goto (tgt := 14) hx hb dX7_order4_10 (by decide) ?_
    exact W.iret (v := ((-1 : Int32) - (mX7_size4 a0))) hx hb hr (fun t ht _ => ⟨by rw [mX7_order4, if_neg c_1], ht⟩) (fun _ h => by cases h) dX7_order4_14

def mX7_lesser4 (a0 : Int32) (a1 : Int32) : Int32 := (if (mX7_order4 a1) ≤ (mX7_order4 a0) then a1 else a0)
set_option maxHeartbeats 4000000 in
set_option maxRecDepth 100000 in
theorem ct_X7_lesser4 (l : Launch) (a0 : Int32) (a1 : Int32) : Met l yX7_lesser4 wsX7_lesser4 { frames := 2, cells := 0, slots := 0, locals := 40 } (fun v _ => v = ([.int a0, .int a1] : List Value).toArray) (k2_QcV (.int (mX7_lesser4 a0 a1))) 0 0 (fun _ => False) := by
  refine Met.ofW (cc := cX7_lesser4) (maxL := 2) (ret := (some .int)) (by decide) rfl ?_
  intro p e s m args below meth c s₁ B hml hv
  subst hv
  have hx := B.exec
  have hb := B.bytes
  have hr := B.returns
  have hts := atoms_spec (ws := wsX7_lesser4) B.pre
  have hown : s.vm.findClass RX7 = some m.cls := findClass_of_methodNamed B.named
  have hlocks := B.notSynchronized
  have hl := lv_entry ([.int a0, .int a1]) (n := 2) (Nat.le_of_ble_eq_true rfl)
  rw [lg_entry_eq]
  generalize (lg_sl ([.int a0, .int a1]) ++ List.replicate (2 - (lg_sl ([.int a0, .int a1])).length) Slot.unset).toArray = ls at hl ⊢
  have hl : lv_has ls 2 [(0, .int a0), (1, .int a1)] := hl
  refine lv_iload_n hx hb dX7_lesser4_0 rfl (lv_at hl 0 rfl) ?_
  refine hc_S (As := [.int a0]) (rest := []) ⟨hx, hb, hml, hown, hts⟩ (ct_X7_order4 l a0) (va_cwS 1 hts gX7_lesser4_X7_order4 rfl rfl rfl (by decide +kernel) ⟨Nat.le_of_ble_eq_true rfl, Nat.le_of_ble_eq_true rfl⟩) rfl hl.1 rfl (Nat.le_of_ble_eq_true rfl) dX7_lesser4_1 ⟨Nat.le_of_ble_eq_true rfl, Nat.le_of_ble_eq_true rfl⟩ ?_
  refine lv_iload_n hx hb dX7_lesser4_4 rfl (lv_at hl 1 rfl) ?_
  refine hc_S (As := [.int a1]) (rest := [.int (mX7_order4 a0)]) ⟨hx, hb, hml, hown, hts⟩ (ct_X7_order4 l a1) (va_cwS 1 hts gX7_lesser4_X7_order4 rfl rfl rfl (by decide +kernel) ⟨Nat.le_of_ble_eq_true rfl, Nat.le_of_ble_eq_true rfl⟩) rfl hl.1 rfl (Nat.le_of_ble_eq_true rfl) dX7_lesser4_5 ⟨Nat.le_of_ble_eq_true rfl, Nat.le_of_ble_eq_true rfl⟩ ?_
  refine lv_icmp_ge (tgt := 15) hx hb dX7_lesser4_8 (by decide) (fun c_1 => ?_) (fun c_1 => ?_)
  · refine lv_iload_n hx hb dX7_lesser4_15 rfl (lv_at hl 1 rfl) ?_
    exact W.iret (v := a1) hx hb hr (fun t ht _ => ⟨by rw [mX7_lesser4, if_pos c_1], ht⟩) (fun _ h => by cases h) dX7_lesser4_16
  · refine lv_iload_n hx hb dX7_lesser4_11 rfl (lv_at hl 0 rfl) ?_
    refine lv_goto (tgt := 16) hx hb dX7_lesser4_12 (by decide) ?_
    exact W.iret (v := a0) hx hb hr (fun t ht _ => ⟨by rw [mX7_lesser4, if_neg c_1], ht⟩) (fun _ h => by cases h) dX7_lesser4_16

def mX7_greater4 (a0 : Int32) (a1 : Int32) : Int32 := (if (mX7_order4 a0) ≤ (mX7_order4 a1) then a1 else a0)
set_option maxHeartbeats 4000000 in
set_option maxRecDepth 100000 in
theorem ct_X7_greater4 (l : Launch) (a0 : Int32) (a1 : Int32) : Met l yX7_greater4 wsX7_greater4 { frames := 2, cells := 0, slots := 0, locals := 40 } (fun v _ => v = ([.int a0, .int a1] : List Value).toArray) (k2_QcV (.int (mX7_greater4 a0 a1))) 0 0 (fun _ => False) := by
  refine Met.ofW (cc := cX7_greater4) (maxL := 2) (ret := (some .int)) (by decide) rfl ?_
  intro p e s m args below meth c s₁ B hml hv
  subst hv
  have hx := B.exec
  have hb := B.bytes
  have hr := B.returns
  have hts := atoms_spec (ws := wsX7_greater4) B.pre
  have hown : s.vm.findClass RX7 = some m.cls := findClass_of_methodNamed B.named
  have hlocks := B.notSynchronized
  have hl := lv_entry ([.int a0, .int a1]) (n := 2) (Nat.le_of_ble_eq_true rfl)
  rw [lg_entry_eq]
  generalize (lg_sl ([.int a0, .int a1]) ++ List.replicate (2 - (lg_sl ([.int a0, .int a1])).length) Slot.unset).toArray = ls at hl ⊢
  have hl : lv_has ls 2 [(0, .int a0), (1, .int a1)] := hl
  refine lv_iload_n hx hb dX7_greater4_0 rfl (lv_at hl 0 rfl) ?_
  refine hc_S (As := [.int a0]) (rest := []) ⟨hx, hb, hml, hown, hts⟩ (ct_X7_order4 l a0) (va_cwS 1 hts gX7_greater4_X7_order4 rfl rfl rfl (by decide +kernel) ⟨Nat.le_of_ble_eq_true rfl, Nat.le_of_ble_eq_true rfl⟩) rfl hl.1 rfl (Nat.le_of_ble_eq_true rfl) dX7_greater4_1 ⟨Nat.le_of_ble_eq_true rfl, Nat.le_of_ble_eq_true rfl⟩ ?_
  refine lv_iload_n hx hb dX7_greater4_4 rfl (lv_at hl 1 rfl) ?_
  refine hc_S (As := [.int a1]) (rest := [.int (mX7_order4 a0)]) ⟨hx, hb, hml, hown, hts⟩ (ct_X7_order4 l a1) (va_cwS 1 hts gX7_greater4_X7_order4 rfl rfl rfl (by decide +kernel) ⟨Nat.le_of_ble_eq_true rfl, Nat.le_of_ble_eq_true rfl⟩) rfl hl.1 rfl (Nat.le_of_ble_eq_true rfl) dX7_greater4_5 ⟨Nat.le_of_ble_eq_true rfl, Nat.le_of_ble_eq_true rfl⟩ ?_
  refine lv_icmp_le (tgt := 15) hx hb dX7_greater4_8 (by decide) (fun c_1 => ?_) (fun c_1 => ?_)
  · refine lv_iload_n hx hb dX7_greater4_15 rfl (lv_at hl 1 rfl) ?_
    exact W.iret (v := a1) hx hb hr (fun t ht _ => ⟨by rw [mX7_greater4, if_pos c_1], ht⟩) (fun _ h => by cases h) dX7_greater4_16
  · refine lv_iload_n hx hb dX7_greater4_11 rfl (lv_at hl 0 rfl) ?_
    refine lv_goto (tgt := 16) hx hb dX7_greater4_12 (by decide) ?_
    exact W.iret (v := a0) hx hb hr (fun t ht _ => ⟨by rw [mX7_greater4, if_neg c_1], ht⟩) (fun _ h => by cases h) dX7_greater4_16

def mX7_isBelow4 (a0 : Int32) (a1 : Int32) : Int32 := (if (mX7_order4 a1) ≤ (mX7_order4 a0) then (0 : Int32) else (if (mX7_size4 a0) = 0 then (if (mX7_size4 a1) = 0 then (0 : Int32) else (1 : Int32)) else (1 : Int32)))
set_option maxHeartbeats 4000000 in
set_option maxRecDepth 100000 in
theorem ct_X7_isBelow4 (l : Launch) (a0 : Int32) (a1 : Int32) : Met l yX7_isBelow4 wsX7_isBelow4 { frames := 2, cells := 0, slots := 0, locals := 40 } (fun v _ => v = ([.int a0, .int a1] : List Value).toArray) (k2_QcV (.int (mX7_isBelow4 a0 a1))) 0 0 (fun _ => False) := by
  refine Met.ofW (cc := cX7_isBelow4) (maxL := 2) (ret := (some .boolean)) (by decide) rfl ?_
  intro p e s m args below meth c s₁ B hml hv
  subst hv
  have hx := B.exec
  have hb := B.bytes
  have hr := B.returns
  have hts := atoms_spec (ws := wsX7_isBelow4) B.pre
  have hown : s.vm.findClass RX7 = some m.cls := findClass_of_methodNamed B.named
  have hlocks := B.notSynchronized
  have hl := lv_entry ([.int a0, .int a1]) (n := 2) (Nat.le_of_ble_eq_true rfl)
  rw [lg_entry_eq]
  generalize (lg_sl ([.int a0, .int a1]) ++ List.replicate (2 - (lg_sl ([.int a0, .int a1])).length) Slot.unset).toArray = ls at hl ⊢
  have hl : lv_has ls 2 [(0, .int a0), (1, .int a1)] := hl
  refine lv_iload_n hx hb dX7_isBelow4_0 rfl (lv_at hl 0 rfl) ?_
  refine hc_S (As := [.int a0]) (rest := []) ⟨hx, hb, hml, hown, hts⟩ (ct_X7_order4 l a0) (va_cwS 1 hts gX7_isBelow4_X7_order4 rfl rfl rfl (by decide +kernel) ⟨Nat.le_of_ble_eq_true rfl, Nat.le_of_ble_eq_true rfl⟩) rfl hl.1 rfl (Nat.le_of_ble_eq_true rfl) dX7_isBelow4_1 ⟨Nat.le_of_ble_eq_true rfl, Nat.le_of_ble_eq_true rfl⟩ ?_
  refine lv_iload_n hx hb dX7_isBelow4_4 rfl (lv_at hl 1 rfl) ?_
  refine hc_S (As := [.int a1]) (rest := [.int (mX7_order4 a0)]) ⟨hx, hb, hml, hown, hts⟩ (ct_X7_order4 l a1) (va_cwS 1 hts gX7_isBelow4_X7_order4 rfl rfl rfl (by decide +kernel) ⟨Nat.le_of_ble_eq_true rfl, Nat.le_of_ble_eq_true rfl⟩) rfl hl.1 rfl (Nat.le_of_ble_eq_true rfl) dX7_isBelow4_5 ⟨Nat.le_of_ble_eq_true rfl, Nat.le_of_ble_eq_true rfl⟩ ?_
  refine lv_icmp_ge (tgt := 29) hx hb dX7_isBelow4_8 (by decide) (fun c_1 => ?_) (fun c_1 => ?_)
  · refine lv_iconst (v := (0 : Int32)) hx hb dX7_isBelow4_29 (by decide) ?_
    exact W.zret (v := (0 : Int32)) hx hb hr rfl (fun t ht _ => ⟨by rw [mX7_isBelow4, if_pos c_1], ht⟩) (fun _ h => by cases h) dX7_isBelow4_30
  · refine lv_iload_n hx hb dX7_isBelow4_11 rfl (lv_at hl 0 rfl) ?_
    refine hc_S (As := [.int a0]) (rest := []) ⟨hx, hb, hml, hown, hts⟩ (ct_X7_size4 l a0) (va_cwS 1 hts gX7_isBelow4_X7_size4 rfl rfl rfl (by decide +kernel) ⟨Nat.le_of_ble_eq_true rfl, Nat.le_of_ble_eq_true rfl⟩) rfl hl.1 rfl (Nat.le_of_ble_eq_true rfl) dX7_isBelow4_12 ⟨Nat.le_of_ble_eq_true rfl, Nat.le_of_ble_eq_true rfl⟩ ?_
    refine lv_if_ne (tgt := 25) hx hb dX7_isBelow4_15 (by decide) (fun c_2 => ?_) (fun c_2 => ?_)
    · refine lv_iconst (v := (1 : Int32)) hx hb dX7_isBelow4_25 (by decide) ?_
      refine lv_goto (tgt := 30) hx hb dX7_isBelow4_26 (by decide) ?_
      exact W.zret (v := (1 : Int32)) hx hb hr rfl (fun t ht _ => ⟨by rw [mX7_isBelow4, if_neg c_1, if_neg c_2], ht⟩) (fun _ h => by cases h) dX7_isBelow4_30
    · refine lv_iload_n hx hb dX7_isBelow4_18 rfl (lv_at hl 1 rfl) ?_
      refine hc_S (As := [.int a1]) (rest := []) ⟨hx, hb, hml, hown, hts⟩ (ct_X7_size4 l a1) (va_cwS 1 hts gX7_isBelow4_X7_size4 rfl rfl rfl (by decide +kernel) ⟨Nat.le_of_ble_eq_true rfl, Nat.le_of_ble_eq_true rfl⟩) rfl hl.1 rfl (Nat.le_of_ble_eq_true rfl) dX7_isBelow4_19 ⟨Nat.le_of_ble_eq_true rfl, Nat.le_of_ble_eq_true rfl⟩ ?_
      refine lv_if_eq (tgt := 29) hx hb dX7_isBelow4_22 (by decide) (fun c_3 => ?_) (fun c_3 => ?_)
      · refine lv_iconst (v := (0 : Int32)) hx hb dX7_isBelow4_29 (by decide) ?_
        exact W.zret (v := (0 : Int32)) hx hb hr rfl (fun t ht _ => ⟨by rw [mX7_isBelow4, if_neg c_1, if_pos c_2, if_pos c_3], ht⟩) (fun _ h => by cases h) dX7_isBelow4_30
      · refine lv_iconst (v := (1 : Int32)) hx hb dX7_isBelow4_25 (by decide) ?_
        refine lv_goto (tgt := 30) hx hb dX7_isBelow4_26 (by decide) ?_
        exact W.zret (v := (1 : Int32)) hx hb hr rfl (fun t ht _ => ⟨by rw [mX7_isBelow4, if_neg c_1, if_pos c_2, if_neg c_3], ht⟩) (fun _ h => by cases h) dX7_isBelow4_30

def mX7_whole64 (a0 : UInt32) : Int64 := (if (Op.cmpValue (FP.fcmp a0 (1593835520 : UInt32)) .l) < 0 then (if 0 < (Op.cmpValue (FP.fcmp a0 (3741319168 : UInt32)) .g) then (FP.f2l a0) else (-9223372036854775808 : Int64)) else (9223372036854775807 : Int64))
set_option maxHeartbeats 4000000 in
set_option maxRecDepth 100000 in
theorem ct_X7_whole64 (l : Launch) (a0 : UInt32) : Met l yX7_whole64 wsX7_whole64 { frames := 0, cells := 0, slots := 0, locals := 0 } (fun v _ => v = ([.float a0] : List Value).toArray) (k2_QcV (.long (mX7_whole64 a0))) 0 0 (fun _ => False) := by
  refine Met.ofW (cc := cX7_whole64) (maxL := 1) (ret := (some .long)) (by decide) rfl ?_
  intro p e s m args below meth c s₁ B hml hv
  subst hv
  have hx := B.exec
  have hb := B.bytes
  have hr := B.returns
  have hts := atoms_spec (ws := wsX7_whole64) B.pre
  have hown : s.vm.findClass RX7 = some m.cls := findClass_of_methodNamed B.named
  have hlocks := B.notSynchronized
  have hl := lv_entry ([.float a0]) (n := 1) (Nat.le_of_ble_eq_true rfl)
  rw [lg_entry_eq]
  generalize (lg_sl ([.float a0]) ++ List.replicate (1 - (lg_sl ([.float a0])).length) Slot.unset).toArray = ls at hl ⊢
  have hl : lv_has ls 1 [(0, .float a0)] := hl
  refine lv_fload_n hx hb dX7_whole64_0 rfl (lv_at hl 0 rfl) ?_
  refine lv_ldcf (v := (1593835520 : UInt32)) hx hb hown (hts (.constantFloat RX7 117 (1593835520)) (by decide +kernel)) dX7_whole64_1 ?_
  refine lv_fcmp hx hb dX7_whole64_3 ?_
  refine lv_if_lt (tgt := 13) hx hb dX7_whole64_4 (by decide) (fun c_1 => ?_) (fun c_1 => ?_)
  · refine lv_fload_n hx hb dX7_whole64_13 rfl (lv_at hl 0 rfl) ?_
    refine lv_ldcf (v := (3741319168 : UInt32)) hx hb hown (hts (.constantFloat RX7 118 (3741319168)) (by decide +kernel)) dX7_whole64_14 ?_
    refine lv_fcmp hx hb dX7_whole64_16 ?_
    refine lv_if_gt (tgt := 26) hx hb dX7_whole64_17 (by decide) (fun c_2 => ?_) (fun c_2 => ?_)
    · refine lv_fload_n hx hb dX7_whole64_26 rfl (lv_at hl 0 rfl) ?_
      refine lv_f2l hx hb dX7_whole64_27 ?_
      exact W.lret (v := (FP.f2l a0)) hx hb hr (fun t ht _ => ⟨by rw [mX7_whole64, if_pos c_1, if_pos c_2], ht⟩) (fun _ h => by cases h) dX7_whole64_28
    · refine lv_ldc2 (v := (-9223372036854775808 : Int64)) hx hb hown (hts (.constantLong RX7 83 (-9223372036854775808)) (by decide +kernel)) dX7_whole64_20 ?_
      refine lv_goto (tgt := 28) hx hb dX7_whole64_23 (by decide) ?_
      exact W.lret (v := (-9223372036854775808 : Int64)) hx hb hr (fun t ht _ => ⟨by rw [mX7_whole64, if_pos c_1, if_neg c_2], ht⟩) (fun _ h => by cases h) dX7_whole64_28
  · refine lv_ldc2 (v := (9223372036854775807 : Int64)) hx hb hown (hts (.constantLong RX7 72 (9223372036854775807)) (by decide +kernel)) dX7_whole64_7 ?_
    refine lv_goto (tgt := 28) hx hb dX7_whole64_10 (by decide) ?_
    exact W.lret (v := (9223372036854775807 : Int64)) hx hb hr (fun t ht _ => ⟨by rw [mX7_whole64, if_neg c_1], ht⟩) (fun _ h => by cases h) dX7_whole64_28

def mX7_isPoint (a0 : Int32) : Int32 := (if a0 < 0 then (0 : Int32) else (if (8 : Int32) ≤ a0 then (0 : Int32) else (1 : Int32)))
set_option maxHeartbeats 4000000 in
set_option maxRecDepth 100000 in
theorem ct_X7_isPoint (l : Launch) (a0 : Int32) : Met l yX7_isPoint wsX7_isPoint { frames := 0, cells := 0, slots := 0, locals := 0 } (fun v _ => v = ([.int a0] : List Value).toArray) (k2_QcV (.int (mX7_isPoint a0))) 0 0 (fun _ => False) := by
  refine Met.ofW (cc := cX7_isPoint) (maxL := 1) (ret := (some .boolean)) (by decide) rfl ?_
  intro p e s m args below meth c s₁ B hml hv
  subst hv
  have hx := B.exec
  have hb := B.bytes
  have hr := B.returns
  have hts := atoms_spec (ws := wsX7_isPoint) B.pre
  have hown : s.vm.findClass RX7 = some m.cls := findClass_of_methodNamed B.named
  have hlocks := B.notSynchronized
  have hl := lv_entry ([.int a0]) (n := 1) (Nat.le_of_ble_eq_true rfl)
  rw [lg_entry_eq]
  generalize (lg_sl ([.int a0]) ++ List.replicate (1 - (lg_sl ([.int a0])).length) Slot.unset).toArray = ls at hl ⊢
  have hl : lv_has ls 1 [(0, .int a0)] := hl
  refine lv_iload_n hx hb dX7_isPoint_0 rfl (lv_at hl 0 rfl) ?_
  refine lv_if_lt (tgt := 14) hx hb dX7_isPoint_1 (by decide) (fun c_1 => ?_) (fun c_1 => ?_)
  · refine lv_iconst (v := (0 : Int32)) hx hb dX7_isPoint_14 (by decide) ?_
    exact W.zret (v := (0 : Int32)) hx hb hr rfl (fun t ht _ => ⟨by rw [mX7_isPoint, if_pos c_1], ht⟩) (fun _ h => by cases h) dX7_isPoint_15
  · refine lv_iload_n hx hb dX7_isPoint_4 rfl (lv_at hl 0 rfl) ?_
    refine lv_bipush (v := (8 : Int32)) hx hb dX7_isPoint_5 (by decide) ?_
    refine lv_icmp_ge (tgt := 14) hx hb dX7_isPoint_7 (by decide) (fun c_2 => ?_) (fun c_2 => ?_)
    · refine lv_iconst (v := (0 : Int32)) hx hb dX7_isPoint_14 (by decide) ?_
      exact W.zret (v := (0 : Int32)) hx hb hr rfl (fun t ht _ => ⟨by rw [mX7_isPoint, if_neg c_1, if_pos c_2], ht⟩) (fun _ h => by cases h) dX7_isPoint_15
    · refine lv_iconst (v := (1 : Int32)) hx hb dX7_isPoint_10 (by decide) ?_
      refine lv_goto (tgt := 15) hx hb dX7_isPoint_11 (by decide) ?_
      exact W.zret (v := (1 : Int32)) hx hb hr rfl (fun t ht _ => ⟨by rw [mX7_isPoint, if_neg c_1, if_neg c_2], ht⟩) (fun _ h => by cases h) dX7_isPoint_15
