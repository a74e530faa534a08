def mX1_isNone (a0 : Int64) : Int32 := (if (lg_cmp (a0 &&& (9223372036854775807 : Int64)) (9218868437227405312 : Int64)) ≤ 0 then (0 : Int32) else (1 : Int32))
set_option maxHeartbeats 4000000 in
set_option maxRecDepth 100000 in
theorem ct_X1_isNone (l : Launch) (a0 : Int64) : Met l yX1_isNone wsX1_isNone { frames := 0, cells := 0, slots := 0, locals := 0 } (fun v _ => v = ([.long a0] : List Value).toArray) (k2_QcV (.int (mX1_isNone a0))) 0 0 (fun _ => False) := by
  refine Met.ofW (cc := cX1_isNone) (maxL := 2) (ret := (some .boolean)) (by decide) rfl ?_
  intro p e s m args below meth c s₁ B hml hv
  subst hv
  have hx := B.exec
  have hb := B.bytes
  have hr := B.returns
  have hts := atoms_spec (ws := wsX1_isNone) B.pre
  have hown : s.vm.findClass RX1 = some m.cls := findClass_of_methodNamed B.named
  have hlocks := B.notSynchronized
  have hl := lv_entry ([.long a0]) (n := 2) (Nat.le_of_ble_eq_true rfl)
  rw [lg_entry_eq]
  generalize (lg_sl ([.long a0]) ++ List.replicate (2 - (lg_sl ([.long a0])).length) Slot.unset).toArray = ls at hl ⊢
  have hl : lv_has ls 2 [(0, .long a0)] := hl
  refine lv_lload_n hx hb dX1_isNone_0 rfl (lv_at hl 0 rfl) ?_
  refine lv_ldc2 (v := (9223372036854775807 : Int64)) hx hb hown (hts (.constantLong RX1 9 (9223372036854775807)) (by decide +kernel)) dX1_isNone_1 ?_
  refine lv_land hx hb dX1_isNone_4 ?_
  refine lv_ldc2 (v := (9218868437227405312 : Int64)) hx hb hown (hts (.constantLong RX1 11 (9218868437227405312)) (by decide +kernel)) dX1_isNone_5 ?_
  refine W.lcmp hx hb dX1_isNone_8 ?_
  refine lv_if_le (tgt := 16) hx hb dX1_isNone_9 (by decide) (fun c_1 => ?_) (fun c_1 => ?_)
  · refine lv_iconst (v := (0 : Int32)) hx hb dX1_isNone_16 (by decide) ?_
    exact W.zret (v := (0 : Int32)) hx hb hr rfl (fun t ht _ => ⟨by rw [mX1_isNone, if_pos c_1], ht⟩) (fun _ h => by cases h) dX1_isNone_17
  · refine lv_iconst (v := (1 : Int32)) hx hb dX1_isNone_12 (by decide) ?_
    refine lv_goto (tgt := 17) hx hb dX1_isNone_13 (by decide) ?_
    exact W.zret (v := (1 : Int32)) hx hb hr rfl (fun t ht _ => ⟨by rw [mX1_isNone, if_neg c_1], ht⟩) (fun _ h => by cases h) dX1_isNone_17

def mX1_isInfinite (a0 : Int64) : Int32 := (if (lg_cmp (a0 &&& (9223372036854775807 : Int64)) (9218868437227405312 : Int64)) = 0 then (1 : Int32) else (0 : Int32))
set_option maxHeartbeats 4000000 in
set_option maxRecDepth 100000 in
theorem ct_X1_isInfinite (l : Launch) (a0 : Int64) : Met l yX1_isInfinite wsX1_isInfinite { frames := 0, cells := 0, slots := 0, locals := 0 } (fun v _ => v = ([.long a0] : List Value).toArray) (k2_QcV (.int (mX1_isInfinite a0))) 0 0 (fun _ => False) := by
  refine Met.ofW (cc := cX1_isInfinite) (maxL := 2) (ret := (some .boolean)) (by decide) rfl ?_
  intro p e s m args below meth c s₁ B hml hv
  subst hv
  have hx := B.exec
  have hb := B.bytes
  have hr := B.returns
  have hts := atoms_spec (ws := wsX1_isInfinite) B.pre
  have hown : s.vm.findClass RX1 = some m.cls := findClass_of_methodNamed B.named
  have hlocks := B.notSynchronized
  have hl := lv_entry ([.long a0]) (n := 2) (Nat.le_of_ble_eq_true rfl)
  rw [lg_entry_eq]
  generalize (lg_sl ([.long a0]) ++ List.replicate (2 - (lg_sl ([.long a0])).length) Slot.unset).toArray = ls at hl ⊢
  have hl : lv_has ls 2 [(0, .long a0)] := hl
  refine lv_lload_n hx hb dX1_isInfinite_0 rfl (lv_at hl 0 rfl) ?_
  refine lv_ldc2 (v := (9223372036854775807 : Int64)) hx hb hown (hts (.constantLong RX1 9 (9223372036854775807)) (by decide +kernel)) dX1_isInfinite_1 ?_
  refine lv_land hx hb dX1_isInfinite_4 ?_
  refine lv_ldc2 (v := (9218868437227405312 : Int64)) hx hb hown (hts (.constantLong RX1 11 (9218868437227405312)) (by decide +kernel)) dX1_isInfinite_5 ?_
  refine W.lcmp hx hb dX1_isInfinite_8 ?_
  refine lv_if_ne (tgt := 16) hx hb dX1_isInfinite_9 (by decide) (fun c_1 => ?_) (fun c_1 => ?_)
  · refine lv_iconst (v := (0 : Int32)) hx hb dX1_isInfinite_16 (by decide) ?_
    exact W.zret (v := (0 : Int32)) hx hb hr rfl (fun t ht _ => ⟨by rw [mX1_isInfinite, if_neg c_1], ht⟩) (fun _ h => by cases h) dX1_isInfinite_17
  · refine lv_iconst (v := (1 : Int32)) hx hb dX1_isInfinite_12 (by decide) ?_
    refine lv_goto (tgt := 17) hx hb dX1_isInfinite_13 (by decide) ?_
    exact W.zret (v := (1 : Int32)) hx hb hr rfl (fun t ht _ => ⟨by rw [mX1_isInfinite, if_pos c_1], ht⟩) (fun _ h => by cases h) dX1_isInfinite_17

def mX1_isAboveZero (a0 : Int64) : Int32 := (if (lg_cmp a0 (0 : Int64)) ≤ 0 then (0 : Int32) else (1 : Int32))
set_option maxHeartbeats 4000000 in
set_option maxRecDepth 100000 in
theorem ct_X1_isAboveZero (l : Launch) (a0 : Int64) : Met l yX1_isAboveZero wsX1_isAboveZero { frames := 0, cells := 0, slots := 0, locals := 0 } (fun v _ => v = ([.long a0] : List Value).toArray) (k2_QcV (.int (mX1_isAboveZero a0))) 0 0 (fun _ => False) := by
  refine Met.ofW (cc := cX1_isAboveZero) (maxL := 2) (ret := (some .boolean)) (by decide) rfl ?_
  intro p e s m args below meth c s₁ B hml hv
  subst hv
  have hx := B.exec
  have hb := B.bytes
  have hr := B.returns
  have hts := atoms_spec (ws := wsX1_isAboveZero) B.pre
  have hown : s.vm.findClass RX1 = some m.cls := findClass_of_methodNamed B.named
  have hlocks := B.notSynchronized
  have hl := lv_entry ([.long a0]) (n := 2) (Nat.le_of_ble_eq_true rfl)
  rw [lg_entry_eq]
  generalize (lg_sl ([.long a0]) ++ List.replicate (2 - (lg_sl ([.long a0])).length) Slot.unset).toArray = ls at hl ⊢
  have hl : lv_has ls 2 [(0, .long a0)] := hl
  refine lv_lload_n hx hb dX1_isAboveZero_0 rfl (lv_at hl 0 rfl) ?_
  refine lv_lconst (v := (0 : Int64)) hx hb dX1_isAboveZero_1 (by decide) ?_
  refine W.lcmp hx hb dX1_isAboveZero_2 ?_
  refine lv_if_le (tgt := 10) hx hb dX1_isAboveZero_3 (by decide) (fun c_1 => ?_) (fun c_1 => ?_)
  · refine lv_iconst (v := (0 : Int32)) hx hb dX1_isAboveZero_10 (by decide) ?_
    exact W.zret (v := (0 : Int32)) hx hb hr rfl (fun t ht _ => ⟨by rw [mX1_isAboveZero, if_pos c_1], ht⟩) (fun _ h => by cases h) dX1_isAboveZero_11
  · refine lv_iconst (v := (1 : Int32)) hx hb dX1_isAboveZero_6 (by decide) ?_
    refine lv_goto (tgt := 11) hx hb dX1_isAboveZero_7 (by decide) ?_
    exact W.zret (v := (1 : Int32)) hx hb hr rfl (fun t ht _ => ⟨by rw [mX1_isAboveZero, if_neg c_1], ht⟩) (fun _ h => by cases h) dX1_isAboveZero_11

def mX1_opposite (a0 : Int64) : Int64 := (a0 ^^^ (-9223372036854775808 : Int64))
set_option maxHeartbeats 4000000 in
set_option maxRecDepth 100000 in
theorem ct_X1_opposite (l : Launch) (a0 : Int64) : Met l yX1_opposite wsX1_opposite { frames := 0, cells := 0, slots := 0, locals := 0 } (fun v _ => v = ([.long a0] : List Value).toArray) (k2_QcV (.long (mX1_opposite a0))) 0 0 (fun _ => False) := by
  refine Met.ofW (cc := cX1_opposite) (maxL := 2) (ret := (some .long)) (by decide) rfl ?_
  intro p e s m args below meth c s₁ B hml hv
  subst hv
  have hx := B.exec
  have hb := B.bytes
  have hr := B.returns
  have hts := atoms_spec (ws := wsX1_opposite) B.pre
  have hown : s.vm.findClass RX1 = some m.cls := findClass_of_methodNamed B.named
  have hlocks := B.notSynchronized
  have hl := lv_entry ([.long a0]) (n := 2) (Nat.le_of_ble_eq_true rfl)
  rw [lg_entry_eq]
  generalize (lg_sl ([.long a0]) ++ List.replicate (2 - (lg_sl ([.long a0])).length) Slot.unset).toArray = ls at hl ⊢
  have hl : lv_has ls 2 [(0, .long a0)] := hl
  refine lv_lload_n hx hb dX1_opposite_0 rfl (lv_at hl 0 rfl) ?_
  refine lv_ldc2 (v := (-9223372036854775808 : Int64)) hx hb hown (hts (.constantLong RX1 13 (-9223372036854775808)) (by decide +kernel)) dX1_opposite_1 ?_
  refine lv_lxor hx hb dX1_opposite_4 ?_
  exact W.lret (v := (a0 ^^^ (-9223372036854775808 : Int64))) hx hb hr (fun t ht _ => ⟨by rw [mX1_opposite], ht⟩) (fun _ h => by cases h) dX1_opposite_5

def mX1_withSignOf (a0 : Int64) (a1 : Int64) : Int64 := ((a0 &&& (9223372036854775807 : Int64)) ||| (a1 &&& (-9223372036854775808 : Int64)))
set_option maxHeartbeats 4000000 in
set_option maxRecDepth 100000 in
theorem ct_X1_withSignOf (l : Launch) (a0 : Int64) (a1 : Int64) : Met l yX1_withSignOf wsX1_withSignOf { frames := 0, cells := 0, slots := 0, locals := 0 } (fun v _ => v = ([.long a0, .long a1] : List Value).toArray) (k2_QcV (.long (mX1_withSignOf a0 a1))) 0 0 (fun _ => False) := by
  refine Met.ofW (cc := cX1_withSignOf) (maxL := 4) (ret := (some .long)) (by decide) rfl ?_
  intro p e s m args below meth c s₁ B hml hv
  subst hv
  have hx := B.exec
  have hb := B.bytes
  have hr := B.returns
  have hts := atoms_spec (ws := wsX1_withSignOf) B.pre
  have hown : s.vm.findClass RX1 = some m.cls := findClass_of_methodNamed B.named
  have hlocks := B.notSynchronized
  have hl := lv_entry ([.long a0, .long a1]) (n := 4) (Nat.le_of_ble_eq_true rfl)
  rw [lg_entry_eq]
  generalize (lg_sl ([.long a0, .long a1]) ++ List.replicate (4 - (lg_sl ([.long a0, .long a1])).length) Slot.unset).toArray = ls at hl ⊢
  have hl : lv_has ls 4 [(0, .long a0), (2, .long a1)] := hl
  refine lv_lload_n hx hb dX1_withSignOf_0 rfl (lv_at hl 0 rfl) ?_
  refine lv_ldc2 (v := (9223372036854775807 : Int64)) hx hb hown (hts (.constantLong RX1 9 (9223372036854775807)) (by decide +kernel)) dX1_withSignOf_1 ?_
  refine lv_land hx hb dX1_withSignOf_4 ?_
  refine lv_lload_n hx hb dX1_withSignOf_5 rfl (lv_at hl 1 rfl) ?_
  refine lv_ldc2 (v := (-9223372036854775808 : Int64)) hx hb hown (hts (.constantLong RX1 13 (-9223372036854775808)) (by decide +kernel)) dX1_withSignOf_6 ?_
  refine lv_land hx hb dX1_withSignOf_9 ?_
  refine lv_lor hx hb dX1_withSignOf_10 ?_
  exact W.lret (v := ((a0 &&& (9223372036854775807 : Int64)) ||| (a1 &&& (-9223372036854775808 : Int64)))) hx hb hr (fun t ht _ => ⟨by rw [mX1_withSignOf], ht⟩) (fun _ h => by cases h) dX1_withSignOf_11

def mX1_unit (a0 : Int64) : Int64 := (if (lg_cmp (a0 &&& (9223372036854775807 : Int64)) (0 : Int64)) = 0 then a0 else (mX1_withSignOf (4607182418800017408 : Int64) a0))
set_option maxHeartbeats 4000000 in
set_option maxRecDepth 100000 in
theorem ct_X1_unit (l : Launch) (a0 : Int64) : Met l yX1_unit wsX1_unit { frames := 1, cells := 0, slots := 0, locals := 23 } (fun v _ => v = ([.long a0] : List Value).toArray) (k2_QcV (.long (mX1_unit a0))) 0 0 (fun _ => False) := by
  refine Met.ofW (cc := cX1_unit) (maxL := 2) (ret := (some .long)) (by decide) rfl ?_
  intro p e s m args below meth c s₁ B hml hv
  subst hv
  have hx := B.exec
  have hb := B.bytes
  have hr := B.returns
  have hts := atoms_spec (ws := wsX1_unit) B.pre
  have hown : s.vm.findClass RX1 = some m.cls := findClass_of_methodNamed B.named
  have hlocks := B.notSynchronized
  have hl := lv_entry ([.long a0]) (n := 2) (Nat.le_of_ble_eq_true rfl)
  rw [lg_entry_eq]
  generalize (lg_sl ([.long a0]) ++ List.replicate (2 - (lg_sl ([.long a0])).length) Slot.unset).toArray = ls at hl ⊢
  have hl : lv_has ls 2 [(0, .long a0)] := hl
  refine lv_lload_n hx hb dX1_unit_0 rfl (lv_at hl 0 rfl) ?_
  refine lv_ldc2 (v := (9223372036854775807 : Int64)) hx hb hown (hts (.constantLong RX1 9 (9223372036854775807)) (by decide +kernel)) dX1_unit_1 ?_
  refine lv_land hx hb dX1_unit_4 ?_
  refine lv_lconst (v := (0 : Int64)) hx hb dX1_unit_5 (by decide) ?_
  refine W.lcmp hx hb dX1_unit_6 ?_
  refine lv_if_ne (tgt := 14) hx hb dX1_unit_7 (by decide) (fun c_1 => ?_) (fun c_1 => ?_)
  · refine lv_ldc2 (v := (4607182418800017408 : Int64)) hx hb hown (hts (.constantLong RX1 15 (4607182418800017408)) (by decide +kernel)) dX1_unit_14 ?_
    refine lv_lload_n hx hb dX1_unit_17 rfl (lv_at hl 0 rfl) ?_
    refine hc_S (As := [.long (4607182418800017408 : Int64), .long a0]) (rest := []) ⟨hx, hb, hml, hown, hts⟩ (ct_X1_withSignOf l (4607182418800017408 : Int64) a0) (va_cwS 2 hts gX1_unit_X1_withSignOf rfl rfl rfl (by decide +kernel) ⟨Nat.le_of_ble_eq_true rfl, Nat.le_of_ble_eq_true rfl⟩) rfl hl.1 rfl (Nat.le_of_ble_eq_true rfl) dX1_unit_18 ⟨Nat.le_of_ble_eq_true rfl, Nat.le_of_ble_eq_true rfl⟩ ?_
    exact W.lret (v := (mX1_withSignOf (4607182418800017408 : Int64) a0)) hx hb hr (fun t ht _ => ⟨by rw [mX1_unit, if_neg c_1], ht⟩) (fun _ h => by cases h) dX1_unit_21
  · refine lv_lload_n hx hb dX1_unit_10 rfl (lv_at hl 0 rfl) ?_
    refine lv_goto (tgt := 21) hx hb dX1_unit_11 (by decide) ?_
    exact W.lret (v := a0) hx hb hr (fun t ht _ => ⟨by rw [mX1_unit, if_pos c_1], ht⟩) (fun _ h => by cases h) dX1_unit_21

def mX1_rank (a0 : Int64) : Int64 := (if 0 ≤ (lg_cmp a0 (0 : Int64)) then a0 else (a0 ^^^ (9223372036854775807 : Int64)))
set_option maxHeartbeats 4000000 in
set_option maxRecDepth 100000 in
theorem ct_X1_rank (l : Launch) (a0 : Int64) : Met l yX1_rank wsX1_rank { frames := 0, cells := 0, slots := 0, locals := 0 } (fun v _ => v = ([.long a0] : List Value).toArray) (k2_QcV (.long (mX1_rank a0))) 0 0 (fun _ => False) := by
  refine Met.ofW (cc := cX1_rank) (maxL := 2) (ret := (some .long)) (by decide) rfl ?_
  intro p e s m args below meth c s₁ B hml hv
  subst hv
  have hx := B.exec
  have hb := B.bytes
  have hr := B.returns
  have hts := atoms_spec (ws := wsX1_rank) B.pre
  have hown : s.vm.findClass RX1 = some m.cls := findClass_of_methodNamed B.named
  have hlocks := B.notSynchronized
  have hl := lv_entry ([.long a0]) (n := 2) (Nat.le_of_ble_eq_true rfl)
  rw [lg_entry_eq]
  generalize (lg_sl ([.long a0]) ++ List.replicate (2 - (lg_sl ([.long a0])).length) Slot.unset).toArray = ls at hl ⊢
  have hl : lv_has ls 2 [(0, .long a0)] := hl
  refine lv_lload_n hx hb dX1_rank_0 rfl (lv_at hl 0 rfl) ?_
  refine lv_lconst (v := (0 : Int64)) hx hb dX1_rank_1 (by decide) ?_
  refine W.lcmp hx hb dX1_rank_2 ?_
  refine lv_if_ge (tgt := 14) hx hb dX1_rank_3 (by decide) (fun c_1 => ?_) (fun c_1 => ?_)
  · refine lv_lload_n hx hb dX1_rank_14 rfl (lv_at hl 0 rfl) ?_
    exact W.lret (v := a0) hx hb hr (fun t ht _ => ⟨by rw [mX1_rank, if_pos c_1], ht⟩) (fun _ h => by cases h) dX1_rank_15
  · refine lv_lload_n hx hb dX1_rank_6 rfl (lv_at hl 0 rfl) ?_
    refine lv_ldc2 (v := (9223372036854775807 : Int64)) hx hb hown (hts (.constantLong RX1 9 (9223372036854775807)) (by decide +kernel)) dX1_rank_7 ?_
    refine lv_lxor hx hb dX1_rank_10 ?_
    refine lv_goto (tgt := 15) hx hb dX1_rank_11 (by decide) ?_
    exact W.lret (v := (a0 ^^^ (9223372036854775807 : Int64))) hx hb hr (fun t ht _ => ⟨by rw [mX1_rank, if_neg c_1], ht⟩) (fun _ h => by cases h) dX1_rank_15

def mX1_lesser (a0 : Int64) (a1 : Int64) : Int64 := (if 0 < (lg_cmp (mX1_rank a0) (mX1_rank a1)) then a1 else a0)
set_option maxHeartbeats 4000000 in
set_option maxRecDepth 100000 in
theorem ct_X1_lesser (l : Launch) (a0 : Int64) (a1 : Int64) : Met l yX1_lesser wsX1_lesser { frames := 1, cells := 0, slots := 0, locals := 21 } (fun v _ => v = ([.long a0, .long a1] : List Value).toArray) (k2_QcV (.long (mX1_lesser a0 a1))) 0 0 (fun _ => False) := by
  refine Met.ofW (cc := cX1_lesser) (maxL := 4) (ret := (some .long)) (by decide) rfl ?_
  intro p e s m args below meth c s₁ B hml hv
  subst hv
  have hx := B.exec
  have hb := B.bytes
  have hr := B.returns
  have hts := atoms_spec (ws := wsX1_lesser) B.pre
  have hown : s.vm.findClass RX1 = some m.cls := findClass_of_methodNamed B.named
  have hlocks := B.notSynchronized
  have hl := lv_entry ([.long a0, .long a1]) (n := 4) (Nat.le_of_ble_eq_true rfl)
  rw [lg_entry_eq]
  generalize (lg_sl ([.long a0, .long a1]) ++ List.replicate (4 - (lg_sl ([.long a0, .long a1])).length) Slot.unset).toArray = ls at hl ⊢
  have hl : lv_has ls 4 [(0, .long a0), (2, .long a1)] := hl
  refine lv_lload_n hx hb dX1_lesser_0 rfl (lv_at hl 0 rfl) ?_
  refine hc_S (As := [.long a0]) (rest := []) ⟨hx, hb, hml, hown, hts⟩ (ct_X1_rank l a0) (va_cwS 1 hts gX1_lesser_X1_rank rfl rfl rfl (by decide +kernel) ⟨Nat.le_of_ble_eq_true rfl, Nat.le_of_ble_eq_true rfl⟩) rfl hl.1 rfl (Nat.le_of_ble_eq_true rfl) dX1_lesser_1 ⟨Nat.le_of_ble_eq_true rfl, Nat.le_of_ble_eq_true rfl⟩ ?_
  refine lv_lload_n hx hb dX1_lesser_4 rfl (lv_at hl 1 rfl) ?_
  refine hc_S (As := [.long a1]) (rest := [.long (mX1_rank a0)]) ⟨hx, hb, hml, hown, hts⟩ (ct_X1_rank l a1) (va_cwS 1 hts gX1_lesser_X1_rank rfl rfl rfl (by decide +kernel) ⟨Nat.le_of_ble_eq_true rfl, Nat.le_of_ble_eq_true rfl⟩) rfl hl.1 rfl (Nat.le_of_ble_eq_true rfl) dX1_lesser_5 ⟨Nat.le_of_ble_eq_true rfl, Nat.le_of_ble_eq_true rfl⟩ ?_
  refine W.lcmp hx hb dX1_lesser_8 ?_
  refine lv_if_gt (tgt := 16) hx hb dX1_lesser_9 (by decide) (fun c_1 => ?_) (fun c_1 => ?_)
  · refine lv_lload_n hx hb dX1_lesser_16 rfl (lv_at hl 1 rfl) ?_
    exact W.lret (v := a1) hx hb hr (fun t ht _ => ⟨by rw [mX1_lesser, if_pos c_1], ht⟩) (fun _ h => by cases h) dX1_lesser_17
  · refine lv_lload_n hx hb dX1_lesser_12 rfl (lv_at hl 0 rfl) ?_
    refine lv_goto (tgt := 17) hx hb dX1_lesser_13 (by decide) ?_
    exact W.lret (v := a0) hx hb hr (fun t ht _ => ⟨by rw [mX1_lesser, if_neg c_1], ht⟩) (fun _ h => by cases h) dX1_lesser_17

def mX1_greater (a0 : Int64) (a1 : Int64) : Int64 := (if (lg_cmp (mX1_rank a0) (mX1_rank a1)) < 0 then a1 else a0)
set_option maxHeartbeats 4000000 in
set_option maxRecDepth 100000 in
theorem ct_X1_greater (l : Launch) (a0 : Int64) (a1 : Int64) : Met l yX1_greater wsX1_greater { frames := 1, cells := 0, slots := 0, locals := 21 } (fun v _ => v = ([.long a0, .long a1] : List Value).toArray) (k2_QcV (.long (mX1_greater a0 a1))) 0 0 (fun _ => False) := by
  refine Met.ofW (cc := cX1_greater) (maxL := 4) (ret := (some .long)) (by decide) rfl ?_
  intro p e s m args below meth c s₁ B hml hv
  subst hv
  have hx := B.exec
  have hb := B.bytes
  have hr := B.returns
  have hts := atoms_spec (ws := wsX1_greater) B.pre
  have hown : s.vm.findClass RX1 = some m.cls := findClass_of_methodNamed B.named
  have hlocks := B.notSynchronized
  have hl := lv_entry ([.long a0, .long a1]) (n := 4) (Nat.le_of_ble_eq_true rfl)
  rw [lg_entry_eq]
  generalize (lg_sl ([.long a0, .long a1]) ++ List.replicate (4 - (lg_sl ([.long a0, .long a1])).length) Slot.unset).toArray = ls at hl ⊢
  have hl : lv_has ls 4 [(0, .long a0), (2, .long a1)] := hl
  refine lv_lload_n hx hb dX1_greater_0 rfl (lv_at hl 0 rfl) ?_
  refine hc_S (As := [.long a0]) (rest := []) ⟨hx, hb, hml, hown, hts⟩ (ct_X1_rank l a0) (va_cwS 1 hts gX1_greater_X1_rank rfl rfl rfl (by decide +kernel) ⟨Nat.le_of_ble_eq_true rfl, Nat.le_of_ble_eq_true rfl⟩) rfl hl.1 rfl (Nat.le_of_ble_eq_true rfl) dX1_greater_1 ⟨Nat.le_of_ble_eq_true rfl, Nat.le_of_ble_eq_true rfl⟩ ?_
  refine lv_lload_n hx hb dX1_greater_4 rfl (lv_at hl 1 rfl) ?_
  refine hc_S (As := [.long a1]) (rest := [.long (mX1_rank a0)]) ⟨hx, hb, hml, hown, hts⟩ (ct_X1_rank l a1) (va_cwS 1 hts gX1_greater_X1_rank rfl rfl rfl (by decide +kernel) ⟨Nat.le_of_ble_eq_true rfl, Nat.le_of_ble_eq_true rfl⟩) rfl hl.1 rfl (Nat.le_of_ble_eq_true rfl) dX1_greater_5 ⟨Nat.le_of_ble_eq_true rfl, Nat.le_of_ble_eq_true rfl⟩ ?_
  refine W.lcmp hx hb dX1_greater_8 ?_
  refine lv_if_lt (tgt := 16) hx hb dX1_greater_9 (by decide) (fun c_1 => ?_) (fun c_1 => ?_)
  · refine lv_lload_n hx hb dX1_greater_16 rfl (lv_at hl 1 rfl) ?_
    exact W.lret (v := a1) hx hb hr (fun t ht _ => ⟨by rw [mX1_greater, if_pos c_1], ht⟩) (fun _ h => by cases h) dX1_greater_17
  · refine lv_lload_n hx hb dX1_greater_12 rfl (lv_at hl 0 rfl) ?_
    refine lv_goto (tgt := 17) hx hb dX1_greater_13 (by decide) ?_
    exact W.lret (v := a0) hx hb hr (fun t ht _ => ⟨by rw [mX1_greater, if_neg c_1], ht⟩) (fun _ h => by cases h) dX1_greater_17

def mX1_outer (a0 : Int64) (a1 : Int64) (a2 : Int32) : Int64 := (if a2 = 0 then (mX1_greater a0 a1) else (mX1_lesser a0 a1))
set_option maxHeartbeats 4000000 in
set_option maxRecDepth 100000 in
theorem ct_X1_outer (l : Launch) (a0 : Int64) (a1 : Int64) (a2 : Int32) : Met l yX1_outer wsX1_outer { frames := 2, cells := 0, slots := 0, locals := 44 } (fun v _ => v = ([.long a0, .long a1, .int a2] : List Value).toArray) (k2_QcV (.long (mX1_outer a0 a1 a2))) 0 0 (fun _ => False) := by
  refine Met.ofW (cc := cX1_outer) (maxL := 5) (ret := (some .long)) (by decide) rfl ?_
  intro p e s m args below meth c s₁ B hml hv
  subst hv
  have hx := B.exec
  have hb := B.bytes
  have hr := B.returns
  have hts := atoms_spec (ws := wsX1_outer) B.pre
  have hown : s.vm.findClass RX1 = some m.cls := findClass_of_methodNamed B.named
  have hlocks := B.notSynchronized
  have hl := lv_entry ([.long a0, .long a1, .int a2]) (n := 5) (Nat.le_of_ble_eq_true rfl)
  rw [lg_entry_eq]
  generalize (lg_sl ([.long a0, .long a1, .int a2]) ++ List.replicate (5 - (lg_sl ([.long a0, .long a1, .int a2])).length) Slot.unset).toArray = ls at hl ⊢
  have hl : lv_has ls 5 [(0, .long a0), (2, .long a1), (4, .int a2)] := hl
  refine lv_iload hx hb dX1_outer_0 (lv_at hl 2 rfl) ?_
  refine lv_if_ne (tgt := 13) hx hb dX1_outer_2 (by decide) (fun c_1 => ?_) (fun c_1 => ?_)
  · refine lv_lload_n hx hb dX1_outer_13 rfl (lv_at hl 0 rfl) ?_
    refine lv_lload_n hx hb dX1_outer_14 rfl (lv_at hl 1 rfl) ?_
    refine hc_S (As := [.long a0, .long a1]) (rest := []) ⟨hx, hb, hml, hown, hts⟩ (ct_X1_lesser l a0 a1) (va_cwS 2 hts gX1_outer_X1_lesser rfl rfl rfl (by decide +kernel) ⟨Nat.le_of_ble_eq_true rfl, Nat.le_of_ble_eq_true rfl⟩) rfl hl.1 rfl (Nat.le_of_ble_eq_true rfl) dX1_outer_15 ⟨Nat.le_of_ble_eq_true rfl, Nat.le_of_ble_eq_true rfl⟩ ?_
    exact W.lret (v := (mX1_lesser a0 a1)) hx hb hr (fun t ht _ => ⟨by rw [mX1_outer, if_neg c_1], ht⟩) (fun _ h => by cases h) dX1_outer_18
  · refine lv_lload_n hx hb dX1_outer_5 rfl (lv_at hl 0 rfl) ?_
    refine lv_lload_n hx hb dX1_outer_6 rfl (lv_at hl 1 rfl) ?_
    refine hc_S (As := [.long a0, .long a1]) (rest := []) ⟨hx, hb, hml, hown, hts⟩ (ct_X1_greater l a0 a1) (va_cwS 2 hts gX1_outer_X1_greater rfl rfl rfl (by decide +kernel) ⟨Nat.le_of_ble_eq_true rfl, Nat.le_of_ble_eq_true rfl⟩) rfl hl.1 rfl (Nat.le_of_ble_eq_true rfl) dX1_outer_7 ⟨Nat.le_of_ble_eq_true rfl, Nat.le_of_ble_eq_true rfl⟩ ?_
    refine lv_goto (tgt := 18) hx hb dX1_outer_10 (by decide) ?_
    exact W.lret (v := (mX1_greater a0 a1)) hx hb hr (fun t ht _ => ⟨by rw [mX1_outer, if_pos c_1], ht⟩) (fun _ h => by cases h) dX1_outer_18

def mX2_leap (a0 : Int32) : UInt64 := (if a0 = (0 : Int32) then (4611686018427387904 : UInt64) else (if a0 = (1 : Int32) then (4616189618054758400 : UInt64) else (if a0 = (2 : Int32) then (4625196817309499392 : UInt64) else (if a0 = (3 : Int32) then (4643211215818981376 : UInt64) else (if a0 = (4 : Int32) then (4679240012837945344 : UInt64) else (if a0 = (5 : Int32) then (4751297606875873280 : UInt64) else (if a0 = (6 : Int32) then (4895412794951729152 : UInt64) else (if a0 = (7 : Int32) then (5183643171103440896 : UInt64) else (if a0 = (8 : Int32) then (5760103923406864384 : UInt64) else (6913025428013711360 : UInt64))))))))))
set_option maxHeartbeats 4000000 in
set_option maxRecDepth 100000 in
theorem ct_X2_leap (l : Launch) (a0 : Int32) : Met l yX2_leap wsX2_leap { frames := 0, cells := 0, slots := 0, locals := 0 } (fun v _ => v = ([.int a0] : List Value).toArray) (k2_QcV (.double (mX2_leap a0))) 0 0 (fun _ => False) := by
  refine Met.ofW (cc := cX2_leap) (maxL := 1) (ret := (some .double)) (by decide) rfl ?_
  intro p e s m args below meth c s₁ B hml hv
  subst hv
  have hx := B.exec
  have hb := B.bytes
  have hr := B.returns
  have hts := atoms_spec (ws := wsX2_leap) B.pre
  have hown : s.vm.findClass RX2 = some m.cls := findClass_of_methodNamed B.named
  have hlocks := B.notSynchronized
  have hl := lv_entry ([.int a0]) (n := 1) (Nat.le_of_ble_eq_true rfl)
  rw [lg_entry_eq]
  generalize (lg_sl ([.int a0]) ++ List.replicate (1 - (lg_sl ([.int a0])).length) Slot.unset).toArray = ls at hl ⊢
  have hl : lv_has ls 1 [(0, .int a0)] := hl
  refine lv_iload_n hx hb dX2_leap_0 rfl (lv_at hl 0 rfl) ?_
  by_cases c_1 : a0 = (0 : Int32)
  · refine lv_tableIn (off := 51) (tgt := 52) hx hb dX2_leap_1 (by rw [c_1]; decide) (by rw [c_1]; decide) (by rw [c_1]; rfl) (by decide) ?_
    refine lv_ldc2d (v := (4611686018427387904 : UInt64)) hx hb hown (hts (.constantDouble RX2 7 (4611686018427387904)) (by decide +kernel)) dX2_leap_52 ?_
    exact W.dret (v := (4611686018427387904 : UInt64)) hx hb hr (fun t ht _ => ⟨by rw [mX2_leap, if_pos c_1], ht⟩) (fun _ h => by cases h) dX2_leap_55
  by_cases c_2 : a0 = (1 : Int32)
  · refine lv_tableIn (off := 55) (tgt := 56) hx hb dX2_leap_1 (by rw [c_2]; decide) (by rw [c_2]; decide) (by rw [c_2]; rfl) (by decide) ?_
    refine lv_ldc2d (v := (4616189618054758400 : UInt64)) hx hb hown (hts (.constantDouble RX2 9 (4616189618054758400)) (by decide +kernel)) dX2_leap_56 ?_
    exact W.dret (v := (4616189618054758400 : UInt64)) hx hb hr (fun t ht _ => ⟨by rw [mX2_leap, if_neg c_1, if_pos c_2], ht⟩) (fun _ h => by cases h) dX2_leap_59
  by_cases c_3 : a0 = (2 : Int32)
  · refine lv_tableIn (off := 59) (tgt := 60) hx hb dX2_leap_1 (by rw [c_3]; decide) (by rw [c_3]; decide) (by rw [c_3]; rfl) (by decide) ?_
    refine lv_ldc2d (v := (4625196817309499392 : UInt64)) hx hb hown (hts (.constantDouble RX2 11 (4625196817309499392)) (by decide +kernel)) dX2_leap_60 ?_
    exact W.dret (v := (4625196817309499392 : UInt64)) hx hb hr (fun t ht _ => ⟨by rw [mX2_leap, if_neg c_1, if_neg c_2, if_pos c_3], ht⟩) (fun _ h => by cases h) dX2_leap_63
  by_cases c_4 : a0 = (3 : Int32)
  · refine lv_tableIn (off := 63) (tgt := 64) hx hb dX2_leap_1 (by rw [c_4]; decide) (by rw [c_4]; decide) (by rw [c_4]; rfl) (by decide) ?_
    refine lv_ldc2d (v := (4643211215818981376 : UInt64)) hx hb hown (hts (.constantDouble RX2 13 (4643211215818981376)) (by decide +kernel)) dX2_leap_64 ?_
    exact W.dret (v := (4643211215818981376 : UInt64)) hx hb hr (fun t ht _ => ⟨by rw [mX2_leap, if_neg c_1, if_neg c_2, if_neg c_3, if_pos c_4], ht⟩) (fun _ h => by cases h) dX2_leap_67
  by_cases c_5 : a0 = (4 : Int32)
  · refine lv_tableIn (off := 67) (tgt := 68) hx hb dX2_leap_1 (by rw [c_5]; decide) (by rw [c_5]; decide) (by rw [c_5]; rfl) (by decide) ?_
    refine lv_ldc2d (v := (4679240012837945344 : UInt64)) hx hb hown (hts (.constantDouble RX2 15 (4679240012837945344)) (by decide +kernel)) dX2_leap_68 ?_
    exact W.dret (v := (4679240012837945344 : UInt64)) hx hb hr (fun t ht _ => ⟨by rw [mX2_leap, if_neg c_1, if_neg c_2, if_neg c_3, if_neg c_4, if_pos c_5], ht⟩) (fun _ h => by cases h) dX2_leap_71
  by_cases c_6 : a0 = (5 : Int32)
  · refine lv_tableIn (off := 71) (tgt := 72) hx hb dX2_leap_1 (by rw [c_6]; decide) (by rw [c_6]; decide) (by rw [c_6]; rfl) (by decide) ?_
    refine lv_ldc2d (v := (4751297606875873280 : UInt64)) hx hb hown (hts (.constantDouble RX2 17 (4751297606875873280)) (by decide +kernel)) dX2_leap_72 ?_
    exact W.dret (v := (4751297606875873280 : UInt64)) hx hb hr (fun t ht _ => ⟨by rw [mX2_leap, if_neg c_1, if_neg c_2, if_neg c_3, if_neg c_4, if_neg c_5, if_pos c_6], ht⟩) (fun _ h => by cases h) dX2_leap_75
  by_cases c_7 : a0 = (6 : Int32)
  · refine lv_tableIn (off := 75) (tgt := 76) hx hb dX2_leap_1 (by rw [c_7]; decide) (by rw [c_7]; decide) (by rw [c_7]; rfl) (by decide) ?_
    refine lv_ldc2d (v := (4895412794951729152 : UInt64)) hx hb hown (hts (.constantDouble RX2 19 (4895412794951729152)) (by decide +kernel)) dX2_leap_76 ?_
    exact W.dret (v := (4895412794951729152 : UInt64)) hx hb hr (fun t ht _ => ⟨by rw [mX2_leap, if_neg c_1, if_neg c_2, if_neg c_3, if_neg c_4, if_neg c_5, if_neg c_6, if_pos c_7], ht⟩) (fun _ h => by cases h) dX2_leap_79
  by_cases c_8 : a0 = (7 : Int32)
  · refine lv_tableIn (off := 79) (tgt := 80) hx hb dX2_leap_1 (by rw [c_8]; decide) (by rw [c_8]; decide) (by rw [c_8]; rfl) (by decide) ?_
    refine lv_ldc2d (v := (5183643171103440896 : UInt64)) hx hb hown (hts (.constantDouble RX2 21 (5183643171103440896)) (by decide +kernel)) dX2_leap_80 ?_
    exact W.dret (v := (5183643171103440896 : UInt64)) hx hb hr (fun t ht _ => ⟨by rw [mX2_leap, if_neg c_1, if_neg c_2, if_neg c_3, if_neg c_4, if_neg c_5, if_neg c_6, if_neg c_7, if_pos c_8], ht⟩) (fun _ h => by cases h) dX2_leap_83
  by_cases c_9 : a0 = (8 : Int32)
  · refine lv_tableIn (off := 83) (tgt := 84) hx hb dX2_leap_1 (by rw [c_9]; decide) (by rw [c_9]; decide) (by rw [c_9]; rfl) (by decide) ?_
    refine lv_ldc2d (v := (5760103923406864384 : UInt64)) hx hb hown (hts (.constantDouble RX2 23 (5760103923406864384)) (by decide +kernel)) dX2_leap_84 ?_
    exact W.dret (v := (5760103923406864384 : UInt64)) hx hb hr (fun t ht _ => ⟨by rw [mX2_leap, if_neg c_1, if_neg c_2, if_neg c_3, if_neg c_4, if_neg c_5, if_neg c_6, if_neg c_7, if_neg c_8, if_pos c_9], ht⟩) (fun _ h => by cases h) dX2_leap_87
  refine lv_tableOut (tgt := 88) hx hb dX2_leap_1 (by have h_1 := lv_neT c_1 (a := 0) (by decide); have h_2 := lv_neT c_2 (a := 1) (by decide); have h_3 := lv_neT c_3 (a := 2) (by decide); have h_4 := lv_neT c_4 (a := 3) (by decide); have h_5 := lv_neT c_5 (a := 4) (by decide); have h_6 := lv_neT c_6 (a := 5) (by decide); have h_7 := lv_neT c_7 (a := 6) (by decide); have h_8 := lv_neT c_8 (a := 7) (by decide); have h_9 := lv_neT c_9 (a := 8) (by decide); omega) (by decide) ?_
  refine lv_ldc2d (v := (6913025428013711360 : UInt64)) hx hb hown (hts (.constantDouble RX2 25 (6913025428013711360)) (by decide +kernel)) dX2_leap_88 ?_
  exact W.dret (v := (6913025428013711360 : UInt64)) hx hb hr (fun t ht _ => ⟨by rw [mX2_leap, if_neg c_1, if_neg c_2, if_neg c_3, if_neg c_4, if_neg c_5, if_neg c_6, if_neg c_7, if_neg c_8, if_neg c_9], ht⟩) (fun _ h => by cases h) dX2_leap_91

def mX6_isPoint (a0 : Int32) : Int32 := (if a0 < 0 then (0 : Int32) else (if (8 : Int32) ≤ a0 then (0 : Int32) else (1 : Int32)))
set_option maxHeartbeats 4000000 in
set_option maxRecDepth 100000 in
theorem ct_X6_isPoint (l : Launch) (a0 : Int32) : Met l yX6_isPoint wsX6_isPoint { frames := 0, cells := 0, slots := 0, locals := 0 } (fun v _ => v = ([.int a0] : List Value).toArray) (k2_QcV (.int (mX6_isPoint a0))) 0 0 (fun _ => False) := by
  refine Met.ofW (cc := cX6_isPoint) (maxL := 1) (ret := (some .boolean)) (by decide) rfl ?_
  intro p e s m args below meth c s₁ B hml hv
  subst hv
  have hx := B.exec
  have hb := B.bytes
  have hr := B.returns
  have hts := atoms_spec (ws := wsX6_isPoint) B.pre
  have hown : s.vm.findClass RX6 = some m.cls := findClass_of_methodNamed B.named
  have hlocks := B.notSynchronized
  have hl := lv_entry ([.int a0]) (n := 1) (Nat.le_of_ble_eq_true rfl)
  rw [lg_entry_eq]
  generalize (lg_sl ([.int a0]) ++ List.replicate (1 - (lg_sl ([.int a0])).length) Slot.unset).toArray = ls at hl ⊢
  have hl : lv_has ls 1 [(0, .int a0)] := hl
  refine lv_iload_n hx hb dX6_isPoint_0 rfl (lv_at hl 0 rfl) ?_
  refine lv_if_lt (tgt := 14) hx hb dX6_isPoint_1 (by decide) (fun c_1 => ?_) (fun c_1 => ?_)
  · refine lv_iconst (v := (0 : Int32)) hx hb dX6_isPoint_14 (by decide) ?_
    exact W.zret (v := (0 : Int32)) hx hb hr rfl (fun t ht _ => ⟨by rw [mX6_isPoint, if_pos c_1], ht⟩) (fun _ h => by cases h) dX6_isPoint_15
  · refine lv_iload_n hx hb dX6_isPoint_4 rfl (lv_at hl 0 rfl) ?_
    refine lv_bipush (v := (8 : Int32)) hx hb dX6_isPoint_5 (by decide) ?_
    refine lv_icmp_ge (tgt := 14) hx hb dX6_isPoint_7 (by decide) (fun c_2 => ?_) (fun c_2 => ?_)
    · refine lv_iconst (v := (0 : Int32)) hx hb dX6_isPoint_14 (by decide) ?_
      exact W.zret (v := (0 : Int32)) hx hb hr rfl (fun t ht _ => ⟨by rw [mX6_isPoint, if_neg c_1, if_pos c_2], ht⟩) (fun _ h => by cases h) dX6_isPoint_15
    · refine lv_iconst (v := (1 : Int32)) hx hb dX6_isPoint_10 (by decide) ?_
      refine lv_goto (tgt := 15) hx hb dX6_isPoint_11 (by decide) ?_
      exact W.zret (v := (1 : Int32)) hx hb hr rfl (fun t ht _ => ⟨by rw [mX6_isPoint, if_neg c_1, if_neg c_2], ht⟩) (fun _ h => by cases h) dX6_isPoint_15

def mX6_isEnd (a0 : Int32) : Int32 := (if a0 = 0 then (1 : Int32) else (if a0 = (1 : Int32) then (1 : Int32) else (0 : Int32)))
set_option maxHeartbeats 4000000 in
set_option maxRecDepth 100000 in
theorem ct_X6_isEnd (l : Launch) (a0 : Int32) : Met l yX6_isEnd wsX6_isEnd { frames := 0, cells := 0, slots := 0, locals := 0 } (fun v _ => v = ([.int a0] : List Value).toArray) (k2_QcV (.int (mX6_isEnd a0))) 0 0 (fun _ => False) := by
  refine Met.ofW (cc := cX6_isEnd) (maxL := 1) (ret := (some .boolean)) (by decide) rfl ?_
  intro p e s m args below meth c s₁ B hml hv
  subst hv
  have hx := B.exec
  have hb := B.bytes
  have hr := B.returns
  have hts := atoms_spec (ws := wsX6_isEnd) B.pre
  have hown : s.vm.findClass RX6 = some m.cls := findClass_of_methodNamed B.named
  have hlocks := B.notSynchronized
  have hl := lv_entry ([.int a0]) (n := 1) (Nat.le_of_ble_eq_true rfl)
  rw [lg_entry_eq]
  generalize (lg_sl ([.int a0]) ++ List.replicate (1 - (lg_sl ([.int a0])).length) Slot.unset).toArray = ls at hl ⊢
  have hl : lv_has ls 1 [(0, .int a0)] := hl
  refine lv_iload_n hx hb dX6_isEnd_0 rfl (lv_at hl 0 rfl) ?_
  refine lv_if_eq (tgt := 9) hx hb dX6_isEnd_1 (by decide) (fun c_1 => ?_) (fun c_1 => ?_)
  · refine lv_iconst (v := (1 : Int32)) hx hb dX6_isEnd_9 (by decide) ?_
    refine lv_goto (tgt := 14) hx hb dX6_isEnd_10 (by decide) ?_
    exact W.zret (v := (1 : Int32)) hx hb hr rfl (fun t ht _ => ⟨by rw [mX6_isEnd, if_pos c_1], ht⟩) (fun _ h => by cases h) dX6_isEnd_14
  · refine lv_iload_n hx hb dX6_isEnd_4 rfl (lv_at hl 0 rfl) ?_
    refine lv_iconst (v := (1 : Int32)) hx hb dX6_isEnd_5 (by decide) ?_
    refine lv_icmp_ne (tgt := 13) hx hb dX6_isEnd_6 (by decide) (fun c_2 => ?_) (fun c_2 => ?_)
    · refine lv_iconst (v := (0 : Int32)) hx hb dX6_isEnd_13 (by decide) ?_
      exact W.zret (v := (0 : Int32)) hx hb hr rfl (fun t ht _ => ⟨by rw [mX6_isEnd, if_neg c_1, if_neg c_2], ht⟩) (fun _ h => by cases h) dX6_isEnd_14
    · refine lv_iconst (v := (1 : Int32)) hx hb dX6_isEnd_9 (by decide) ?_
      refine lv_goto (tgt := 14) hx hb dX6_isEnd_10 (by decide) ?_
      exact W.zret (v := (1 : Int32)) hx hb hr rfl (fun t ht _ => ⟨by rw [mX6_isEnd, if_neg c_1, if_pos c_2], ht⟩) (fun _ h => by cases h) dX6_isEnd_14

def mX5_isWay (a0 : Int32) : Int32 := (if a0 < 0 then (0 : Int32) else (if (3 : Int32) < a0 then (0 : Int32) else (1 : Int32)))
set_option maxHeartbeats 4000000 in
set_option maxRecDepth 100000 in
theorem ct_X5_isWay (l : Launch) (a0 : Int32) : Met l yX5_isWay wsX5_isWay { frames := 0, cells := 0, slots := 0, locals := 0 } (fun v _ => v = ([.int a0] : List Value).toArray) (k2_QcV (.int (mX5_isWay a0))) 0 0 (fun _ => False) := by
  refine Met.ofW (cc := cX5_isWay) (maxL := 1) (ret := (some .boolean)) (by decide) rfl ?_
  intro p e s m args below meth c s₁ B hml hv
  subst hv
  have hx := B.exec
  have hb := B.bytes
  have hr := B.returns
  have hts := atoms_spec (ws := wsX5_isWay) B.pre
  have hown : s.vm.findClass RX5 = some m.cls := findClass_of_methodNamed B.named
  have hlocks := B.notSynchronized
  have hl := lv_entry ([.int a0]) (n := 1) (Nat.le_of_ble_eq_true rfl)
  rw [lg_entry_eq]
  generalize (lg_sl ([.int a0]) ++ List.replicate (1 - (lg_sl ([.int a0])).length) Slot.unset).toArray = ls at hl ⊢
  have hl : lv_has ls 1 [(0, .int a0)] := hl
  refine lv_iload_n hx hb dX5_isWay_0 rfl (lv_at hl 0 rfl) ?_
  refine lv_if_lt (tgt := 13) hx hb dX5_isWay_1 (by decide) (fun c_1 => ?_) (fun c_1 => ?_)
  · refine lv_iconst (v := (0 : Int32)) hx hb dX5_isWay_13 (by decide) ?_
    exact W.zret (v := (0 : Int32)) hx hb hr rfl (fun t ht _ => ⟨by rw [mX5_isWay, if_pos c_1], ht⟩) (fun _ h => by cases h) dX5_isWay_14
  · refine lv_iload_n hx hb dX5_isWay_4 rfl (lv_at hl 0 rfl) ?_
    refine lv_iconst (v := (3 : Int32)) hx hb dX5_isWay_5 (by decide) ?_
    refine lv_icmp_gt (tgt := 13) hx hb dX5_isWay_6 (by decide) (fun c_2 => ?_) (fun c_2 => ?_)
    · refine lv_iconst (v := (0 : Int32)) hx hb dX5_isWay_13 (by decide) ?_
      exact W.zret (v := (0 : Int32)) hx hb hr rfl (fun t ht _ => ⟨by rw [mX5_isWay, if_neg c_1, if_pos c_2], ht⟩) (fun _ h => by cases h) dX5_isWay_14
    · refine lv_iconst (v := (1 : Int32)) hx hb dX5_isWay_9 (by decide) ?_
      refine lv_goto (tgt := 14) hx hb dX5_isWay_10 (by decide) ?_
      exact W.zret (v := (1 : Int32)) hx hb hr rfl (fun t ht _ => ⟨by rw [mX5_isWay, if_neg c_1, if_neg c_2], ht⟩) (fun _ h => by cases h) dX5_isWay_14
