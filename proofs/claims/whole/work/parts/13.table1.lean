theorem gd_in {k : Int32} (h : ¬ k < 0) (h4 : ¬ (4 : Int32) ≤ k) : vp_in k 4 := by
  rw [vp_in_iff]
  rw [Int32.lt_iff_toInt_lt] at h
  rw [Int32.le_iff_toInt_le] at h4
  have a : (0 : Int32).toInt = 0 := by decide
  have b : (4 : Int32).toInt = 4 := by decide
  omega

def mX6_refuse (u : TS) (a0 : Int32) : Int32 × TS := (a0, (u.1, (u.2.1 + (1 : Int32)), u.2.2.1, u.2.2.2.1, u.2.2.2.2.1, u.2.2.2.2.2.1, u.2.2.2.2.2.2))
set_option maxHeartbeats 4000000 in
set_option maxRecDepth 100000 in
theorem ct_X6_refuse (l : Launch) (dC : Nat → ClassId) (dI : Nat → Nat → Nat) (ad : Nat → Nat) (ca : Nat → ClassId) (sz : Nat) (u : TS) (a0 : Int32) : Met l yX6_refuse wsX6_refuse { frames := 0, cells := 0, slots := 0, locals := 0 } (pM (dC, dI) vwCl [((ca 4), .long), ((ca 5), .long), ((ca 6), .long), ((ca 7), .int), ((ca 8), .long), ((ca 9), .long)] (WT ad ca u) sz [.ref (ad 0), .int a0]) (qM (dC, dI) vwCl (WT ad ca u) sz (some (.int (mX6_refuse u a0).1)) (WT ad ca (mX6_refuse u a0).2)) 0 0 (va_A (WT ad ca u) sz) := by
  refine Met.ofW (cc := cX6_refuse) (maxL := 2) (ret := (some .int)) (by decide) rfl ?_
  intro p e s m args below meth c s₁ B hml hv
  obtain ⟨rfl, hsz, hP, hK, hD0, hNW⟩ := hv
  subst hsz
  have hx := B.exec
  have hb := B.bytes
  have hr := B.returns
  have hts := atoms_spec (ws := wsX6_refuse) B.pre
  have hown : s.vm.findClass RX6 = some m.cls := findClass_of_methodNamed B.named
  have hlocks := B.notSynchronized
  have hin6 : ∀ w ∈ wsX60, w ∈ wsX6_refuse := by decide +kernel
  have hD : va_D (va_A (WT ad ca u) s.heap.size) (WT ad ca u) := hD0.self
  have hA : ∀ q : Nat, s.heap.size ≤ q → va_A (WT ad ca u) s.heap.size q := fun q h => Or.inr h
  have hS : va_S (va_A (WT ad ca u) s.heap.size) s.heap s.heap [] := va_S.rf
  have hl := lv_entry ([.ref (ad 0), .int a0]) (n := 2) (Nat.le_of_ble_eq_true rfl)
  rw [lg_entry_eq]
  generalize (lg_sl ([.ref (ad 0), .int a0]) ++ List.replicate (2 - (lg_sl ([.ref (ad 0), .int a0])).length) Slot.unset).toArray = ls at hl ⊢
  have hl : lv_has ls 2 [(0, .ref (ad 0)), (1, .int a0)] := hl
  refine lv_aload_n hx hb dX6_refuse_0 rfl (lv_at hl 0 rfl) ?_
  refine lv_dup hx hb dX6_refuse_1 rfl ?_
  refine va_get (D := (dC, dI)) (ci := 2) (v := .int u.2.1) (C := RX6) (T := TX6) (N := 7) hx hb hts hin6 hown hK hP 0 rfl rfl 5 (by decide) (hts (.fieldLink RX6 169 "SnapTable" "refused" "I") (by decide +kernel)) (fun _ h9 => h9) rfl dX6_refuse_2 ?_
  refine lv_iconst (v := (1 : Int32)) hx hb dX6_refuse_5 (by decide) ?_
  refine lv_iadd hx hb dX6_refuse_6 ?_
  refine va_put (D := (dC, dI)) (ci := 2) (v := .int (u.2.1 + (1 : Int32))) (ty := .int) (C := RX6) (T := TX6) (N := 7) hx hb hts hin6 tyX6 tyX6_ok nmX6 hown hK hP hD hS 0 rfl rfl 5 (by decide) (hts (.fieldLink RX6 169 "SnapTable" "refused" "I") (by decide +kernel)) (fun _ h9 => h9) rfl (by decide +kernel) rfl rfl (Nat.le_of_ble_eq_true rfl) dX6_refuse_7 (fun H locs hP hD hS => ?_)
  have hP : va_P (dC, dI) vwCl (WT ad ca (u.1, (u.2.1 + (1 : Int32)), u.2.2.1, u.2.2.2.1, u.2.2.2.2.1, u.2.2.2.2.2.1, u.2.2.2.2.2.2)) H := hP
  have hD : va_D (va_A (WT ad ca u) s.heap.size) (WT ad ca (u.1, (u.2.1 + (1 : Int32)), u.2.2.1, u.2.2.2.1, u.2.2.2.2.1, u.2.2.2.2.2.1, u.2.2.2.2.2.2)) := hD
  refine lv_iload_n hx hb dX6_refuse_10 rfl (lv_at hl 1 rfl) ?_
  have he : mX6_refuse u a0 = (a0, (u.1, (u.2.1 + (1 : Int32)), u.2.2.1, u.2.2.2.1, u.2.2.2.2.1, u.2.2.2.2.2.1, u.2.2.2.2.2.2)) := by rw [mX6_refuse]
  exact rM_i hx hb hr hlocks hP hD hS (by rw [he]) (by rw [he]) dX6_refuse_11

def mX6_finish (u : TS) : Int32 × TS := ((0 : Int32), ((u.1 + (1 : Int32)), u.2.1, u.2.2.1, u.2.2.2.1, u.2.2.2.2.1, u.2.2.2.2.2.1, u.2.2.2.2.2.2))
set_option maxHeartbeats 4000000 in
set_option maxRecDepth 100000 in
theorem ct_X6_finish (l : Launch) (dC : Nat → ClassId) (dI : Nat → Nat → Nat) (ad : Nat → Nat) (ca : Nat → ClassId) (sz : Nat) (u : TS) : Met l yX6_finish wsX6_finish { frames := 0, cells := 0, slots := 0, locals := 0 } (pM (dC, dI) vwCl [((ca 4), .long), ((ca 5), .long), ((ca 6), .long), ((ca 7), .int), ((ca 8), .long), ((ca 9), .long)] (WT ad ca u) sz [.ref (ad 0)]) (qM (dC, dI) vwCl (WT ad ca u) sz (some (.int (mX6_finish u).1)) (WT ad ca (mX6_finish u).2)) 0 0 (va_A (WT ad ca u) sz) := by
  refine Met.ofW (cc := cX6_finish) (maxL := 1) (ret := (some .int)) (by decide) rfl ?_
  intro p e s m args below meth c s₁ B hml hv
  obtain ⟨rfl, hsz, hP, hK, hD0, hNW⟩ := hv
  subst hsz
  have hx := B.exec
  have hb := B.bytes
  have hr := B.returns
  have hts := atoms_spec (ws := wsX6_finish) B.pre
  have hown : s.vm.findClass RX6 = some m.cls := findClass_of_methodNamed B.named
  have hlocks := B.notSynchronized
  have hin6 : ∀ w ∈ wsX60, w ∈ wsX6_finish := by decide +kernel
  have hD : va_D (va_A (WT ad ca u) s.heap.size) (WT ad ca u) := hD0.self
  have hA : ∀ q : Nat, s.heap.size ≤ q → va_A (WT ad ca u) s.heap.size q := fun q h => Or.inr h
  have hS : va_S (va_A (WT ad ca u) s.heap.size) s.heap s.heap [] := va_S.rf
  have hl := lv_entry ([.ref (ad 0)]) (n := 1) (Nat.le_of_ble_eq_true rfl)
  rw [lg_entry_eq]
  generalize (lg_sl ([.ref (ad 0)]) ++ List.replicate (1 - (lg_sl ([.ref (ad 0)])).length) Slot.unset).toArray = ls at hl ⊢
  have hl : lv_has ls 1 [(0, .ref (ad 0))] := hl
  refine lv_aload_n hx hb dX6_finish_0 rfl (lv_at hl 0 rfl) ?_
  refine lv_dup hx hb dX6_finish_1 rfl ?_
  refine va_get (D := (dC, dI)) (ci := 2) (v := .int u.1) (C := RX6) (T := TX6) (N := 7) hx hb hts hin6 hown hK hP 0 rfl rfl 4 (by decide) (hts (.fieldLink RX6 166 "SnapTable" "done" "I") (by decide +kernel)) (fun _ h9 => h9) rfl dX6_finish_2 ?_
  refine lv_iconst (v := (1 : Int32)) hx hb dX6_finish_5 (by decide) ?_
  refine lv_iadd hx hb dX6_finish_6 ?_
  refine va_put (D := (dC, dI)) (ci := 2) (v := .int (u.1 + (1 : Int32))) (ty := .int) (C := RX6) (T := TX6) (N := 7) hx hb hts hin6 tyX6 tyX6_ok nmX6 hown hK hP hD hS 0 rfl rfl 4 (by decide) (hts (.fieldLink RX6 166 "SnapTable" "done" "I") (by decide +kernel)) (fun _ h9 => h9) rfl (by decide +kernel) rfl rfl (Nat.le_of_ble_eq_true rfl) dX6_finish_7 (fun H locs hP hD hS => ?_)
  have hP : va_P (dC, dI) vwCl (WT ad ca ((u.1 + (1 : Int32)), u.2.1, u.2.2.1, u.2.2.2.1, u.2.2.2.2.1, u.2.2.2.2.2.1, u.2.2.2.2.2.2)) H := hP
  have hD : va_D (va_A (WT ad ca u) s.heap.size) (WT ad ca ((u.1 + (1 : Int32)), u.2.1, u.2.2.1, u.2.2.2.1, u.2.2.2.2.1, u.2.2.2.2.2.1, u.2.2.2.2.2.2)) := hD
  refine lv_iconst (v := (0 : Int32)) hx hb dX6_finish_10 (by decide) ?_
  have he : mX6_finish u = ((0 : Int32), ((u.1 + (1 : Int32)), u.2.1, u.2.2.1, u.2.2.2.1, u.2.2.2.2.1, u.2.2.2.2.2.1, u.2.2.2.2.2.2)) := by rw [mX6_finish]
  exact rM_i hx hb hr hlocks hP hD hS (by rw [he]) (by rw [he]) dX6_finish_11

def mX6_put (u : TS) (a0 : Int32) (a1 : Int64) (a2 : Int64) : Int32 × TS := ((mX6_finish (u.1, u.2.1, u.2.2.1, (u.2.2.2.1.1, u.2.2.2.1.2.1, u.2.2.2.1.2.2.1, (vp_updL u.2.2.2.1.2.2.2 a0.toNatClampNeg a1)), (u.2.2.2.2.1.1, u.2.2.2.2.1.2.1, u.2.2.2.2.1.2.2.1, (vp_updL u.2.2.2.2.1.2.2.2 a0.toNatClampNeg a2)), (mX4_keep u.2.2.2.2.2.1 a0 (u.2.2.2.1.2.2.2 a0.toNatClampNeg) (u.2.2.2.2.1.2.2.2 a0.toNatClampNeg)), u.2.2.2.2.2.2)).1, (mX6_finish (u.1, u.2.1, u.2.2.1, (u.2.2.2.1.1, u.2.2.2.1.2.1, u.2.2.2.1.2.2.1, (vp_updL u.2.2.2.1.2.2.2 a0.toNatClampNeg a1)), (u.2.2.2.2.1.1, u.2.2.2.2.1.2.1, u.2.2.2.2.1.2.2.1, (vp_updL u.2.2.2.2.1.2.2.2 a0.toNatClampNeg a2)), (mX4_keep u.2.2.2.2.2.1 a0 (u.2.2.2.1.2.2.2 a0.toNatClampNeg) (u.2.2.2.2.1.2.2.2 a0.toNatClampNeg)), u.2.2.2.2.2.2)).2)
set_option maxHeartbeats 4000000 in
set_option maxRecDepth 100000 in
theorem ct_X6_put (l : Launch) (dC : Nat → ClassId) (dI : Nat → Nat → Nat) (ad : Nat → Nat) (ca : Nat → ClassId) (sz : Nat) (u : TS) (a0 : Int32) (a1 : Int64) (a2 : Int64) (hk : vp_in a0 8) (hn : vp_in u.2.2.2.2.2.1.1 16) : Met l yX6_put wsX6_put { frames := 1, cells := 0, slots := 0, locals := 25 } (pM (dC, dI) vwCl [((ca 4), .long), ((ca 5), .long), ((ca 6), .long), ((ca 7), .int), ((ca 8), .long), ((ca 9), .long)] (WT ad ca u) sz [.ref (ad 0), .int a0, .long a1, .long a2]) (qM (dC, dI) vwCl (WT ad ca u) sz (some (.int (mX6_put u a0 a1 a2).1)) (WT ad ca (mX6_put u a0 a1 a2).2)) 0 0 (va_A (WT ad ca u) sz) := by
  refine Met.ofW (cc := cX6_put) (maxL := 6) (ret := (some .int)) (by decide) rfl ?_
  intro p e s m args below meth c s₁ B hml hv
  obtain ⟨rfl, hsz, hP, hK, hD0, hNW⟩ := hv
  subst hsz
  have hx := B.exec
  have hb := B.bytes
  have hr := B.returns
  have hts := atoms_spec (ws := wsX6_put) B.pre
  have hown : s.vm.findClass RX6 = some m.cls := findClass_of_methodNamed B.named
  have hlocks := B.notSynchronized
  have hin0 : ∀ w ∈ wsX00, w ∈ wsX6_put := by decide +kernel
  have hin6 : ∀ w ∈ wsX60, w ∈ wsX6_put := by decide +kernel
  have hD : va_D (va_A (WT ad ca u) s.heap.size) (WT ad ca u) := hD0.self
  have hA : ∀ q : Nat, s.heap.size ≤ q → va_A (WT ad ca u) s.heap.size q := fun q h => Or.inr h
  have hS : va_S (va_A (WT ad ca u) s.heap.size) s.heap s.heap [] := va_S.rf
  have hl := lv_entry ([.ref (ad 0), .int a0, .long a1, .long a2]) (n := 6) (Nat.le_of_ble_eq_true rfl)
  rw [lg_entry_eq]
  generalize (lg_sl ([.ref (ad 0), .int a0, .long a1, .long a2]) ++ List.replicate (6 - (lg_sl ([.ref (ad 0), .int a0, .long a1, .long a2])).length) Slot.unset).toArray = ls at hl ⊢
  have hl : lv_has ls 6 [(0, .ref (ad 0)), (1, .int a0), (2, .long a1), (4, .long a2)] := hl
  refine lv_aload_n hx hb dX6_put_0 rfl (lv_at hl 0 rfl) ?_
  refine va_get (D := (dC, dI)) (ci := 2) (v := .ref (ad 3)) (C := RX6) (T := TX6) (N := 7) hx hb hts hin6 hown hK hP 0 rfl rfl 2 (by decide) (hts (.fieldLink RX6 24 "SnapTable" "trail" "LSnapTable$Trail;") (by decide +kernel)) (fun _ h9 => h9) rfl dX6_put_1 ?_
  refine lv_iload_n hx hb dX6_put_4 rfl (lv_at hl 1 rfl) ?_
  refine lv_aload_n hx hb dX6_put_5 rfl (lv_at hl 0 rfl) ?_
  refine va_get (D := (dC, dI)) (ci := 2) (v := .ref (ad 1)) (C := RX6) (T := TX6) (N := 7) hx hb hts hin6 hown hK hP 0 rfl rfl 0 (by decide) (hts (.fieldLink RX6 12 "SnapTable" "widths" "LSnapTable$Axis;") (by decide +kernel)) (fun _ h9 => h9) rfl dX6_put_6 ?_
  refine va_getN (D := (dC, dI)) (ci := 0) (v := .ref (ad 5)) (C := RX0) (T := TX0) (N := 5) hx hb hts hin0 hown hK hP 1 rfl rfl 1 (by decide) (va_Nw.use rfl hNW.1) (fun _ h9 => h9) rfl dX6_put_9 ?_
  refine lv_iload_n hx hb dX6_put_12 rfl (lv_at hl 1 rfl) ?_
  refine va_lald hx hb hK hP 5 1 rfl rfl (by first | with_reducible assumption | with_reducible exact pt_in (by with_reducible assumption) | with_reducible exact ptm_in (by with_reducible assumption) | exact LU.vin (B := 8) hm (by decide) (by with_reducible assumption) (by decide) | exact LU.vin (B := 4) hm (by decide) (by with_reducible assumption) (by decide) | exact LU.vin (B := 16) hm (by decide) (by with_reducible assumption) (by decide) | exact vp_in_nI (n := 0) (by decide) (by decide) | with_reducible exact gdm_in (by with_reducible assumption) (by with_reducible assumption) | with_reducible exact gd_in (by with_reducible assumption) (by with_reducible assumption)) dX6_put_13 ?_
  refine lv_aload_n hx hb dX6_put_14 rfl (lv_at hl 0 rfl) ?_
  refine va_get (D := (dC, dI)) (ci := 2) (v := .ref (ad 2)) (C := RX6) (T := TX6) (N := 7) hx hb hts hin6 hown hK hP 0 rfl rfl 1 (by decide) (hts (.fieldLink RX6 18 "SnapTable" "heights" "LSnapTable$Axis;") (by decide +kernel)) (fun _ h9 => h9) rfl dX6_put_15 ?_
  refine va_getN (D := (dC, dI)) (ci := 0) (v := .ref (ad 6)) (C := RX0) (T := TX0) (N := 5) hx hb hts hin0 hown hK hP 2 rfl rfl 1 (by decide) (va_Nw.use rfl hNW.1) (fun _ h9 => h9) rfl dX6_put_18 ?_
  refine lv_iload_n hx hb dX6_put_21 rfl (lv_at hl 1 rfl) ?_
  refine va_lald hx hb hK hP 6 2 rfl rfl (by first | with_reducible assumption | with_reducible exact pt_in (by with_reducible assumption) | with_reducible exact ptm_in (by with_reducible assumption) | exact LU.vin (B := 8) hm (by decide) (by with_reducible assumption) (by decide) | exact LU.vin (B := 4) hm (by decide) (by with_reducible assumption) (by decide) | exact LU.vin (B := 16) hm (by decide) (by with_reducible assumption) (by decide) | exact vp_in_nI (n := 0) (by decide) (by decide) | with_reducible exact gdm_in (by with_reducible assumption) (by with_reducible assumption) | with_reducible exact gd_in (by with_reducible assumption) (by with_reducible assumption)) dX6_put_22 ?_
  refine hc_M (C := RX4) (ci := 1) (T := TX4) (N := 5) (As := [.int a0, .long (u.2.2.2.1.2.2.2 a0.toNatClampNeg), .long (u.2.2.2.2.1.2.2.2 a0.toNatClampNeg)]) (rest := []) ⟨hx, hb, hml, hown, hts⟩ (ct_X4_keep l dC dI (ad 3) (ad 7) (ad 8) (ad 9) (ca 7) (ca 8) (ca 9) _ u.2.2.2.2.2.1 a0 (u.2.2.2.1.2.2.2 a0.toNatClampNeg) (u.2.2.2.2.1.2.2.2 a0.toNatClampNeg) (by first | with_reducible assumption | with_reducible exact pt_in (by with_reducible assumption) | with_reducible exact hn)) (cwV 3 hts gX6_put_X4_keep rfl rfl rfl (by decide +kernel) ⟨Nat.le_of_ble_eq_true rfl, Nat.le_of_ble_eq_true rfl⟩) hP hD (hK.sub [3, 4, 5] rfl) hNW hS hA [3, 7, 8, 9] [0, 1, 2, 4, 5, 6] rfl (wr := [((ad 0), .inr (2, [.ref (ad 1), .ref (ad 2), .ref (ad 3), .ref (ad 4), .int u.1, .int u.2.1, .int u.2.2.1])), ((ad 1), .inr (0, [.int 0, .ref (ad 5), .long u.2.2.2.1.1, .long u.2.2.2.1.2.1, .long u.2.2.2.1.2.2.1])), ((ad 2), .inr (0, [.int 1, .ref (ad 6), .long u.2.2.2.2.1.1, .long u.2.2.2.2.1.2.1, .long u.2.2.2.2.1.2.2.1])), ((ad 4), .inl ((ca 4), 4, .inr (.inl u.2.2.2.2.2.2))), ((ad 5), .inl ((ca 5), 8, .inr (.inl u.2.2.2.1.2.2.2))), ((ad 6), .inl ((ca 6), 8, .inr (.inl u.2.2.2.2.1.2.2.2)))]) rfl (by decide) (by decide) (by decide) rfl rfl rfl hl.1 rfl (Nat.le_of_ble_eq_true rfl) dX6_put_23 ⟨Nat.le_of_ble_eq_true rfl, Nat.le_of_ble_eq_true rfl⟩ (fun H locs hP hD hS => ?_)
  generalize hz_1 : mX4_keep u.2.2.2.2.2.1 a0 (u.2.2.2.1.2.2.2 a0.toNatClampNeg) (u.2.2.2.2.1.2.2.2 a0.toNatClampNeg) = z_1 at hP hD
  have hP : va_P (dC, dI) vwCl (WT ad ca (u.1, u.2.1, u.2.2.1, u.2.2.2.1, u.2.2.2.2.1, z_1, u.2.2.2.2.2.2)) H := hP.sub [0, 1, 2, 6, 3, 4, 5, 7, 8, 9] rfl
  have hD : va_D (va_A (WT ad ca u) s.heap.size) (WT ad ca (u.1, u.2.1, u.2.2.1, u.2.2.2.1, u.2.2.2.2.1, z_1, u.2.2.2.2.2.2)) := hD.sub [0, 1, 2, 6, 3, 4, 5, 7, 8, 9] (by decide) rfl
  refine lv_aload_n hx hb dX6_put_26 rfl (lv_at hl 0 rfl) ?_
  refine va_get (D := (dC, dI)) (ci := 2) (v := .ref (ad 1)) (C := RX6) (T := TX6) (N := 7) hx hb hts hin6 hown hK hP 0 rfl rfl 0 (by decide) (hts (.fieldLink RX6 12 "SnapTable" "widths" "LSnapTable$Axis;") (by decide +kernel)) (fun _ h9 => h9) rfl dX6_put_27 ?_
  refine va_getN (D := (dC, dI)) (ci := 0) (v := .ref (ad 5)) (C := RX0) (T := TX0) (N := 5) hx hb hts hin0 hown hK hP 1 rfl rfl 1 (by decide) (va_Nw.use rfl hNW.1) (fun _ h9 => h9) rfl dX6_put_30 ?_
  refine lv_iload_n hx hb dX6_put_33 rfl (lv_at hl 1 rfl) ?_
  refine lv_lload_n hx hb dX6_put_34 rfl (lv_at hl 2 rfl) ?_
  refine va_last hx hb hK hP hD hS 5 1 rfl rfl (by first | with_reducible assumption | with_reducible exact pt_in (by with_reducible assumption) | with_reducible exact ptm_in (by with_reducible assumption) | exact LU.vin (B := 8) hm (by decide) (by with_reducible assumption) (by decide) | exact LU.vin (B := 4) hm (by decide) (by with_reducible assumption) (by decide) | exact LU.vin (B := 16) hm (by decide) (by with_reducible assumption) (by decide) | exact vp_in_nI (n := 0) (by decide) (by decide) | with_reducible exact gdm_in (by with_reducible assumption) (by with_reducible assumption) | with_reducible exact gd_in (by with_reducible assumption) (by with_reducible assumption)) dX6_put_35 (fun H locs hP hD hS => ?_)
  have hP : va_P (dC, dI) vwCl (WT ad ca (u.1, u.2.1, u.2.2.1, (u.2.2.2.1.1, u.2.2.2.1.2.1, u.2.2.2.1.2.2.1, (vp_updL u.2.2.2.1.2.2.2 a0.toNatClampNeg a1)), u.2.2.2.2.1, z_1, u.2.2.2.2.2.2)) H := hP
  have hD : va_D (va_A (WT ad ca u) s.heap.size) (WT ad ca (u.1, u.2.1, u.2.2.1, (u.2.2.2.1.1, u.2.2.2.1.2.1, u.2.2.2.1.2.2.1, (vp_updL u.2.2.2.1.2.2.2 a0.toNatClampNeg a1)), u.2.2.2.2.1, z_1, u.2.2.2.2.2.2)) := hD
  refine lv_aload_n hx hb dX6_put_36 rfl (lv_at hl 0 rfl) ?_
  refine va_get (D := (dC, dI)) (ci := 2) (v := .ref (ad 2)) (C := RX6) (T := TX6) (N := 7) hx hb hts hin6 hown hK hP 0 rfl rfl 1 (by decide) (hts (.fieldLink RX6 18 "SnapTable" "heights" "LSnapTable$Axis;") (by decide +kernel)) (fun _ h9 => h9) rfl dX6_put_37 ?_
  refine va_getN (D := (dC, dI)) (ci := 0) (v := .ref (ad 6)) (C := RX0) (T := TX0) (N := 5) hx hb hts hin0 hown hK hP 2 rfl rfl 1 (by decide) (va_Nw.use rfl hNW.1) (fun _ h9 => h9) rfl dX6_put_40 ?_
  refine lv_iload_n hx hb dX6_put_43 rfl (lv_at hl 1 rfl) ?_
  refine lv_lload hx hb dX6_put_44 (lv_at hl 3 rfl) ?_
  refine va_last hx hb hK hP hD hS 6 2 rfl rfl (by first | with_reducible assumption | with_reducible exact pt_in (by with_reducible assumption) | with_reducible exact ptm_in (by with_reducible assumption) | exact LU.vin (B := 8) hm (by decide) (by with_reducible assumption) (by decide) | exact LU.vin (B := 4) hm (by decide) (by with_reducible assumption) (by decide) | exact LU.vin (B := 16) hm (by decide) (by with_reducible assumption) (by decide) | exact vp_in_nI (n := 0) (by decide) (by decide) | with_reducible exact gdm_in (by with_reducible assumption) (by with_reducible assumption) | with_reducible exact gd_in (by with_reducible assumption) (by with_reducible assumption)) dX6_put_46 (fun H locs hP hD hS => ?_)
  have hP : va_P (dC, dI) vwCl (WT ad ca (u.1, u.2.1, u.2.2.1, (u.2.2.2.1.1, u.2.2.2.1.2.1, u.2.2.2.1.2.2.1, (vp_updL u.2.2.2.1.2.2.2 a0.toNatClampNeg a1)), (u.2.2.2.2.1.1, u.2.2.2.2.1.2.1, u.2.2.2.2.1.2.2.1, (vp_updL u.2.2.2.2.1.2.2.2 a0.toNatClampNeg a2)), z_1, u.2.2.2.2.2.2)) H := hP
  have hD : va_D (va_A (WT ad ca u) s.heap.size) (WT ad ca (u.1, u.2.1, u.2.2.1, (u.2.2.2.1.1, u.2.2.2.1.2.1, u.2.2.2.1.2.2.1, (vp_updL u.2.2.2.1.2.2.2 a0.toNatClampNeg a1)), (u.2.2.2.2.1.1, u.2.2.2.2.1.2.1, u.2.2.2.2.1.2.2.1, (vp_updL u.2.2.2.2.1.2.2.2 a0.toNatClampNeg a2)), z_1, u.2.2.2.2.2.2)) := hD
  refine lv_aload_n hx hb dX6_put_47 rfl (lv_at hl 0 rfl) ?_
  refine hc_M (C := RX6) (ci := 2) (T := TX6) (N := 7) (As := []) (rest := []) ⟨hx, hb, hml, hown, hts⟩ (ct_X6_finish l dC dI ad ca _ (u.1, u.2.1, u.2.2.1, (u.2.2.2.1.1, u.2.2.2.1.2.1, u.2.2.2.1.2.2.1, (vp_updL u.2.2.2.1.2.2.2 a0.toNatClampNeg a1)), (u.2.2.2.2.1.1, u.2.2.2.2.1.2.1, u.2.2.2.2.1.2.2.1, (vp_updL u.2.2.2.2.1.2.2.2 a0.toNatClampNeg a2)), z_1, u.2.2.2.2.2.2)) (cwV 0 hts gX6_put_X6_finish rfl rfl rfl (by decide +kernel) ⟨Nat.le_of_ble_eq_true rfl, Nat.le_of_ble_eq_true rfl⟩) hP hD (hK.sub [0, 1, 2, 3, 4, 5] rfl) hNW hS hA [0, 1, 2, 3, 4, 5, 6, 7, 8, 9] [] rfl (wr := []) rfl (by decide) (by decide) (by decide) rfl rfl rfl hl.1 rfl (Nat.le_of_ble_eq_true rfl) dX6_put_48 ⟨Nat.le_of_ble_eq_true rfl, Nat.le_of_ble_eq_true rfl⟩ (fun H locs hP hD hS => ?_)
  generalize hz_2 : mX6_finish (u.1, u.2.1, u.2.2.1, (u.2.2.2.1.1, u.2.2.2.1.2.1, u.2.2.2.1.2.2.1, (vp_updL u.2.2.2.1.2.2.2 a0.toNatClampNeg a1)), (u.2.2.2.2.1.1, u.2.2.2.2.1.2.1, u.2.2.2.2.1.2.2.1, (vp_updL u.2.2.2.2.1.2.2.2 a0.toNatClampNeg a2)), z_1, u.2.2.2.2.2.2) = z_2 at hP hD ⊢
  have hP : va_P (dC, dI) vwCl (WT ad ca z_2.2) H := hP.sub [0, 1, 2, 3, 4, 5, 6, 7, 8, 9] rfl
  have hD : va_D (va_A (WT ad ca u) s.heap.size) (WT ad ca z_2.2) := hD.sub [0, 1, 2, 3, 4, 5, 6, 7, 8, 9] (by decide) rfl
  refine W.eq (g2 := F0 m 51 ls (.int z_2.1 :: [])) rfl ?_
  have he : mX6_put u a0 a1 a2 = (z_2.1, z_2.2) := by rw [mX6_put, hz_1, hz_2]
  exact rM_i hx hb hr hlocks hP hD hS (by rw [he]) (by rw [he]) dX6_put_51

def mX6_putWalled (u : TS) (a0 : Int32) (a1 : Int64) (a2 : Int64) : Int32 × TS := (if (mX1_isInfinite (mX0_walled u.2.2.2.1 a1)) = 0 then (if (mX1_isInfinite (mX0_walled u.2.2.2.2.1 a2)) = 0 then (if (lg_cmp (mX0_walled u.2.2.2.1 a1) a1) = 0 then (if (lg_cmp (mX0_walled u.2.2.2.2.1 a2) a2) = 0 then ((mX6_put u a0 (mX0_walled u.2.2.2.1 a1) (mX0_walled u.2.2.2.2.1 a2)).1, (mX6_put u a0 (mX0_walled u.2.2.2.1 a1) (mX0_walled u.2.2.2.2.1 a2)).2) else ((mX6_put (u.1, u.2.1, (u.2.2.1 + (1 : Int32)), u.2.2.2.1, u.2.2.2.2.1, u.2.2.2.2.2.1, u.2.2.2.2.2.2) a0 (mX0_walled u.2.2.2.1 a1) (mX0_walled u.2.2.2.2.1 a2)).1, (mX6_put (u.1, u.2.1, (u.2.2.1 + (1 : Int32)), u.2.2.2.1, u.2.2.2.2.1, u.2.2.2.2.2.1, u.2.2.2.2.2.2) a0 (mX0_walled u.2.2.2.1 a1) (mX0_walled u.2.2.2.2.1 a2)).2)) else (if (lg_cmp (mX0_walled u.2.2.2.2.1 a2) a2) = 0 then ((mX6_put (u.1, u.2.1, (u.2.2.1 + (1 : Int32)), u.2.2.2.1, u.2.2.2.2.1, u.2.2.2.2.2.1, u.2.2.2.2.2.2) a0 (mX0_walled u.2.2.2.1 a1) (mX0_walled u.2.2.2.2.1 a2)).1, (mX6_put (u.1, u.2.1, (u.2.2.1 + (1 : Int32)), u.2.2.2.1, u.2.2.2.2.1, u.2.2.2.2.2.1, u.2.2.2.2.2.2) a0 (mX0_walled u.2.2.2.1 a1) (mX0_walled u.2.2.2.2.1 a2)).2) else ((mX6_put (u.1, u.2.1, ((u.2.2.1 + (1 : Int32)) + (1 : Int32)), u.2.2.2.1, u.2.2.2.2.1, u.2.2.2.2.2.1, u.2.2.2.2.2.2) a0 (mX0_walled u.2.2.2.1 a1) (mX0_walled u.2.2.2.2.1 a2)).1, (mX6_put (u.1, u.2.1, ((u.2.2.1 + (1 : Int32)) + (1 : Int32)), u.2.2.2.1, u.2.2.2.2.1, u.2.2.2.2.2.1, u.2.2.2.2.2.2) a0 (mX0_walled u.2.2.2.1 a1) (mX0_walled u.2.2.2.2.1 a2)).2))) else ((mX6_refuse u (5 : Int32)).1, (mX6_refuse u (5 : Int32)).2)) else ((mX6_refuse u (5 : Int32)).1, (mX6_refuse u (5 : Int32)).2))
set_option maxHeartbeats 4000000 in
set_option maxRecDepth 100000 in
theorem ct_X6_putWalled (l : Launch) (dC : Nat → ClassId) (dI : Nat → Nat → Nat) (ad : Nat → Nat) (ca : Nat → ClassId) (sz : Nat) (u : TS) (a0 : Int32) (a1 : Int64) (a2 : Int64) (hk : vp_in a0 8) (hn : vp_in u.2.2.2.2.2.1.1 16) : Met l yX6_putWalled wsX6_putWalled { frames := 3, cells := 0, slots := 0, locals := 66 } (pM (dC, dI) vwCl [((ca 4), .long), ((ca 5), .long), ((ca 6), .long), ((ca 7), .int), ((ca 8), .long), ((ca 9), .long)] (WT ad ca u) sz [.ref (ad 0), .int a0, .long a1, .long a2]) (qM (dC, dI) vwCl (WT ad ca u) sz (some (.int (mX6_putWalled u a0 a1 a2).1)) (WT ad ca (mX6_putWalled u a0 a1 a2).2)) 0 0 (va_A (WT ad ca u) sz) := by
  refine Met.ofW (cc := cX6_putWalled) (maxL := 10) (ret := (some .int)) (by decide) rfl ?_
  intro p e s m args below meth c s₁ B hml hv
  obtain ⟨rfl, hsz, hP, hK, hD0, hNW⟩ := hv
  subst hsz
  have hx := B.exec
  have hb := B.bytes
  have hr := B.returns
  have hts := atoms_spec (ws := wsX6_putWalled) B.pre
  have hown : s.vm.findClass RX6 = some m.cls := findClass_of_methodNamed B.named
  have hlocks := B.notSynchronized
  have hin6 : ∀ w ∈ wsX60, w ∈ wsX6_putWalled := by decide +kernel
  have hD : va_D (va_A (WT ad ca u) s.heap.size) (WT ad ca u) := hD0.self
  have hA : ∀ q : Nat, s.heap.size ≤ q → va_A (WT ad ca u) s.heap.size q := fun q h => Or.inr h
  have hS : va_S (va_A (WT ad ca u) s.heap.size) s.heap s.heap [] := va_S.rf
  have hl := lv_entry ([.ref (ad 0), .int a0, .long a1, .long a2]) (n := 10) (Nat.le_of_ble_eq_true rfl)
  rw [lg_entry_eq]
  generalize (lg_sl ([.ref (ad 0), .int a0, .long a1, .long a2]) ++ List.replicate (10 - (lg_sl ([.ref (ad 0), .int a0, .long a1, .long a2])).length) Slot.unset).toArray = ls at hl ⊢
  have hl : lv_has ls 10 [(0, .ref (ad 0)), (1, .int a0), (2, .long a1), (4, .long a2)] := hl
  refine lv_aload_n hx hb dX6_putWalled_0 rfl (lv_at hl 0 rfl) ?_
  refine va_get (D := (dC, dI)) (ci := 2) (v := .ref (ad 1)) (C := RX6) (T := TX6) (N := 7) hx hb hts hin6 hown hK hP 0 rfl rfl 0 (by decide) (hts (.fieldLink RX6 12 "SnapTable" "widths" "LSnapTable$Axis;") (by decide +kernel)) (fun _ h9 => h9) rfl dX6_putWalled_1 ?_
  refine lv_lload_n hx hb dX6_putWalled_4 rfl (lv_at hl 2 rfl) ?_
  refine hc_V (C := RX0) (ci := 0) (T := TX0) (N := 5) (As := [.long a1]) (rest := []) ⟨hx, hb, hml, hown, hts⟩ (ct_X0_walled l dC dI (ad 1) (ad 5) (ca 5) 0 u.2.2.2.1 a1) (cwV 1 hts gX6_putWalled_X0_walled rfl rfl rfl (by decide +kernel) ⟨Nat.le_of_ble_eq_true rfl, Nat.le_of_ble_eq_true rfl⟩) (hw_part hP [1, 5] rfl) (hK.sub [1] rfl) hNW rfl rfl rfl hl.1 rfl (Nat.le_of_ble_eq_true rfl) dX6_putWalled_5 ⟨Nat.le_of_ble_eq_true rfl, Nat.le_of_ble_eq_true rfl⟩ ?_
  refine lv_lstore (lv' := [(6, .long (mX0_walled u.2.2.2.1 a1)), (0, .ref (ad 0)), (1, .int a0), (2, .long a1), (4, .long a2)]) hx hb dX6_putWalled_8 hl (by decide) rfl (fun ls hl => ?_)
  refine lv_aload_n hx hb dX6_putWalled_10 rfl (lv_at hl 1 rfl) ?_
  refine va_get (D := (dC, dI)) (ci := 2) (v := .ref (ad 2)) (C := RX6) (T := TX6) (N := 7) hx hb hts hin6 hown hK hP 0 rfl rfl 1 (by decide) (hts (.fieldLink RX6 18 "SnapTable" "heights" "LSnapTable$Axis;") (by decide +kernel)) (fun _ h9 => h9) rfl dX6_putWalled_11 ?_
  refine lv_lload hx hb dX6_putWalled_14 (lv_at hl 4 rfl) ?_
  refine hc_V (C := RX0) (ci := 0) (T := TX0) (N := 5) (As := [.long a2]) (rest := []) ⟨hx, hb, hml, hown, hts⟩ (ct_X0_walled l dC dI (ad 2) (ad 6) (ca 6) 1 u.2.2.2.2.1 a2) (cwV 1 hts gX6_putWalled_X0_walled rfl rfl rfl (by decide +kernel) ⟨Nat.le_of_ble_eq_true rfl, Nat.le_of_ble_eq_true rfl⟩) (hw_part hP [2, 6] rfl) (hK.sub [2] rfl) hNW rfl rfl rfl hl.1 rfl (Nat.le_of_ble_eq_true rfl) dX6_putWalled_16 ⟨Nat.le_of_ble_eq_true rfl, Nat.le_of_ble_eq_true rfl⟩ ?_
  refine lv_lstore (lv' := [(8, .long (mX0_walled u.2.2.2.2.1 a2)), (6, .long (mX0_walled u.2.2.2.1 a1)), (0, .ref (ad 0)), (1, .int a0), (2, .long a1), (4, .long a2)]) hx hb dX6_putWalled_19 hl (by decide) rfl (fun ls hl => ?_)
  refine lv_lload hx hb dX6_putWalled_21 (lv_at hl 1 rfl) ?_
  refine hc_S (As := [.long (mX0_walled u.2.2.2.1 a1)]) (rest := []) ⟨hx, hb, hml, hown, hts⟩ (ct_X1_isInfinite l (mX0_walled u.2.2.2.1 a1)) (va_cwS 1 hts gX6_putWalled_X1_isInfinite rfl rfl rfl (by decide +kernel) ⟨Nat.le_of_ble_eq_true rfl, Nat.le_of_ble_eq_true rfl⟩) rfl hl.1 rfl (Nat.le_of_ble_eq_true rfl) dX6_putWalled_23 ⟨Nat.le_of_ble_eq_true rfl, Nat.le_of_ble_eq_true rfl⟩ ?_
  refine lv_if_ne (tgt := 37) hx hb dX6_putWalled_26 (by decide) (fun c_1 => ?_) (fun c_1 => ?_)
  · refine lv_aload_n hx hb dX6_putWalled_37 rfl (lv_at hl 2 rfl) ?_
    refine lv_iconst (v := (5 : Int32)) hx hb dX6_putWalled_38 (by decide) ?_
    refine hc_M (C := RX6) (ci := 2) (T := TX6) (N := 7) (As := [.int (5 : Int32)]) (rest := []) ⟨hx, hb, hml, hown, hts⟩ (ct_X6_refuse l dC dI ad ca _ u (5 : Int32)) (cwV 1 hts gX6_putWalled_X6_refuse rfl rfl rfl (by decide +kernel) ⟨Nat.le_of_ble_eq_true rfl, Nat.le_of_ble_eq_true rfl⟩) hP hD (hK.sub [0, 1, 2, 3, 4, 5] rfl) hNW hS hA [0, 1, 2, 3, 4, 5, 6, 7, 8, 9] [] rfl (wr := []) rfl (by decide) (by decide) (by decide) rfl rfl rfl hl.1 rfl (Nat.le_of_ble_eq_true rfl) dX6_putWalled_39 ⟨Nat.le_of_ble_eq_true rfl, Nat.le_of_ble_eq_true rfl⟩ (fun H locs hP hD hS => ?_)
    generalize hz_2 : mX6_refuse u (5 : Int32) = z_2 at hP hD ⊢
    have hP : va_P (dC, dI) vwCl (WT ad ca z_2.2) H := hP.sub [0, 1, 2, 3, 4, 5, 6, 7, 8, 9] rfl
    have hD : va_D (va_A (WT ad ca u) s.heap.size) (WT ad ca z_2.2) := hD.sub [0, 1, 2, 3, 4, 5, 6, 7, 8, 9] (by decide) rfl
    refine W.eq (g2 := F0 m 42 ls (.int z_2.1 :: [])) rfl ?_
    have he : mX6_putWalled u a0 a1 a2 = (z_2.1, z_2.2) := by rw [mX6_putWalled, if_neg c_1, hz_2]
    exact rM_i hx hb hr hlocks hP hD hS (by rw [he]) (by rw [he]) dX6_putWalled_42
  · refine lv_lload hx hb dX6_putWalled_29 (lv_at hl 0 rfl) ?_
    refine hc_S (As := [.long (mX0_walled u.2.2.2.2.1 a2)]) (rest := []) ⟨hx, hb, hml, hown, hts⟩ (ct_X1_isInfinite l (mX0_walled u.2.2.2.2.1 a2)) (va_cwS 1 hts gX6_putWalled_X1_isInfinite rfl rfl rfl (by decide +kernel) ⟨Nat.le_of_ble_eq_true rfl, Nat.le_of_ble_eq_true rfl⟩) rfl hl.1 rfl (Nat.le_of_ble_eq_true rfl) dX6_putWalled_31 ⟨Nat.le_of_ble_eq_true rfl, Nat.le_of_ble_eq_true rfl⟩ ?_
    refine lv_if_eq (tgt := 43) hx hb dX6_putWalled_34 (by decide) (fun c_3 => ?_) (fun c_3 => ?_)
    · refine lv_lload hx hb dX6_putWalled_43 (lv_at hl 1 rfl) ?_
      refine lv_lload_n hx hb dX6_putWalled_45 rfl (lv_at hl 4 rfl) ?_
      refine W.lcmp hx hb dX6_putWalled_46 ?_
      refine lv_if_eq (tgt := 60) hx hb dX6_putWalled_47 (by decide) (fun c_4 => ?_) (fun c_4 => ?_)
      · refine lv_lload hx hb dX6_putWalled_60 (lv_at hl 0 rfl) ?_
        refine lv_lload hx hb dX6_putWalled_62 (lv_at hl 5 rfl) ?_
        refine W.lcmp hx hb dX6_putWalled_64 ?_
        refine lv_if_eq (tgt := 78) hx hb dX6_putWalled_65 (by decide) (fun c_5 => ?_) (fun c_5 => ?_)
        · refine lv_aload_n hx hb dX6_putWalled_78 rfl (lv_at hl 2 rfl) ?_
          refine lv_iload_n hx hb dX6_putWalled_79 rfl (lv_at hl 3 rfl) ?_
          refine lv_lload hx hb dX6_putWalled_80 (lv_at hl 1 rfl) ?_
          refine lv_lload hx hb dX6_putWalled_82 (lv_at hl 0 rfl) ?_
          refine hc_M (C := RX6) (ci := 2) (T := TX6) (N := 7) (As := [.int a0, .long (mX0_walled u.2.2.2.1 a1), .long (mX0_walled u.2.2.2.2.1 a2)]) (rest := []) ⟨hx, hb, hml, hown, hts⟩ (ct_X6_put l dC dI ad ca _ u a0 (mX0_walled u.2.2.2.1 a1) (mX0_walled u.2.2.2.2.1 a2) (by first | with_reducible assumption | with_reducible exact pt_in (by with_reducible assumption) | with_reducible exact hn) (by first | with_reducible assumption | with_reducible exact pt_in (by with_reducible assumption) | with_reducible exact hn)) (cwV 3 hts gX6_putWalled_X6_put rfl rfl rfl (by decide +kernel) ⟨Nat.le_of_ble_eq_true rfl, Nat.le_of_ble_eq_true rfl⟩) hP hD (hK.sub [0, 1, 2, 3, 4, 5] rfl) hNW hS hA [0, 1, 2, 3, 4, 5, 6, 7, 8, 9] [] rfl (wr := []) rfl (by decide) (by decide) (by decide) rfl rfl rfl hl.1 rfl (Nat.le_of_ble_eq_true rfl) dX6_putWalled_84 ⟨Nat.le_of_ble_eq_true rfl, Nat.le_of_ble_eq_true rfl⟩ (fun H locs hP hD hS => ?_)
          generalize hz_6 : mX6_put u a0 (mX0_walled u.2.2.2.1 a1) (mX0_walled u.2.2.2.2.1 a2) = z_6 at hP hD ⊢
          have hP : va_P (dC, dI) vwCl (WT ad ca z_6.2) H := hP.sub [0, 1, 2, 3, 4, 5, 6, 7, 8, 9] rfl
          have hD : va_D (va_A (WT ad ca u) s.heap.size) (WT ad ca z_6.2) := hD.sub [0, 1, 2, 3, 4, 5, 6, 7, 8, 9] (by decide) rfl
          refine W.eq (g2 := F0 m 87 ls (.int z_6.1 :: [])) rfl ?_
          have he : mX6_putWalled u a0 a1 a2 = (z_6.1, z_6.2) := by rw [mX6_putWalled, if_pos c_1, if_pos c_3, if_pos c_4, if_pos c_5, hz_6]
          exact rM_i hx hb hr hlocks hP hD hS (by rw [he]) (by rw [he]) dX6_putWalled_87
        · refine lv_aload_n hx hb dX6_putWalled_68 rfl (lv_at hl 2 rfl) ?_
          refine lv_dup hx hb dX6_putWalled_69 rfl ?_
          refine va_get (D := (dC, dI)) (ci := 2) (v := .int u.2.2.1) (C := RX6) (T := TX6) (N := 7) hx hb hts hin6 hown hK hP 0 rfl rfl 6 (by decide) (hts (.fieldLink RX6 172 "SnapTable" "met" "I") (by decide +kernel)) (fun _ h9 => h9) rfl dX6_putWalled_70 ?_
          refine lv_iconst (v := (1 : Int32)) hx hb dX6_putWalled_73 (by decide) ?_
          refine lv_iadd hx hb dX6_putWalled_74 ?_
          refine va_put (D := (dC, dI)) (ci := 2) (v := .int (u.2.2.1 + (1 : Int32))) (ty := .int) (C := RX6) (T := TX6) (N := 7) hx hb hts hin6 tyX6 tyX6_ok nmX6 hown hK hP hD hS 0 rfl rfl 6 (by decide) (hts (.fieldLink RX6 172 "SnapTable" "met" "I") (by decide +kernel)) (fun _ h9 => h9) rfl (by decide +kernel) rfl rfl (Nat.le_of_ble_eq_true rfl) dX6_putWalled_75 (fun H locs hP hD hS => ?_)
          have hP : va_P (dC, dI) vwCl (WT ad ca (u.1, u.2.1, (u.2.2.1 + (1 : Int32)), u.2.2.2.1, u.2.2.2.2.1, u.2.2.2.2.2.1, u.2.2.2.2.2.2)) H := hP
          have hD : va_D (va_A (WT ad ca u) s.heap.size) (WT ad ca (u.1, u.2.1, (u.2.2.1 + (1 : Int32)), u.2.2.2.1, u.2.2.2.2.1, u.2.2.2.2.2.1, u.2.2.2.2.2.2)) := hD
          refine lv_aload_n hx hb dX6_putWalled_78 rfl (lv_at hl 2 rfl) ?_
          refine lv_iload_n hx hb dX6_putWalled_79 rfl (lv_at hl 3 rfl) ?_
          refine lv_lload hx hb dX6_putWalled_80 (lv_at hl 1 rfl) ?_
          refine lv_lload hx hb dX6_putWalled_82 (lv_at hl 0 rfl) ?_
          refine hc_M (C := RX6) (ci := 2) (T := TX6) (N := 7) (As := [.int a0, .long (mX0_walled u.2.2.2.1 a1), .long (mX0_walled u.2.2.2.2.1 a2)]) (rest := []) ⟨hx, hb, hml, hown, hts⟩ (ct_X6_put l dC dI ad ca _ (u.1, u.2.1, (u.2.2.1 + (1 : Int32)), u.2.2.2.1, u.2.2.2.2.1, u.2.2.2.2.2.1, u.2.2.2.2.2.2) a0 (mX0_walled u.2.2.2.1 a1) (mX0_walled u.2.2.2.2.1 a2) (by first | with_reducible assumption | with_reducible exact pt_in (by with_reducible assumption) | with_reducible exact hn) (by first | with_reducible assumption | with_reducible exact pt_in (by with_reducible assumption) | with_reducible exact hn)) (cwV 3 hts gX6_putWalled_X6_put rfl rfl rfl (by decide +kernel) ⟨Nat.le_of_ble_eq_true rfl, Nat.le_of_ble_eq_true rfl⟩) hP hD (hK.sub [0, 1, 2, 3, 4, 5] rfl) hNW hS hA [0, 1, 2, 3, 4, 5, 6, 7, 8, 9] [] rfl (wr := []) rfl (by decide) (by decide) (by decide) rfl rfl rfl hl.1 rfl (Nat.le_of_ble_eq_true rfl) dX6_putWalled_84 ⟨Nat.le_of_ble_eq_true rfl, Nat.le_of_ble_eq_true rfl⟩ (fun H locs hP hD hS => ?_)
          generalize hz_7 : mX6_put (u.1, u.2.1, (u.2.2.1 + (1 : Int32)), u.2.2.2.1, u.2.2.2.2.1, u.2.2.2.2.2.1, u.2.2.2.2.2.2) a0 (mX0_walled u.2.2.2.1 a1) (mX0_walled u.2.2.2.2.1 a2) = z_7 at hP hD ⊢
          have hP : va_P (dC, dI) vwCl (WT ad ca z_7.2) H := hP.sub [0, 1, 2, 3, 4, 5, 6, 7, 8, 9] rfl
          have hD : va_D (va_A (WT ad ca u) s.heap.size) (WT ad ca z_7.2) := hD.sub [0, 1, 2, 3, 4, 5, 6, 7, 8, 9] (by decide) rfl
          refine W.eq (g2 := F0 m 87 ls (.int z_7.1 :: [])) rfl ?_
          have he : mX6_putWalled u a0 a1 a2 = (z_7.1, z_7.2) := by rw [mX6_putWalled, if_pos c_1, if_pos c_3, if_pos c_4, if_neg c_5, hz_7]
          exact rM_i hx hb hr hlocks hP hD hS (by rw [he]) (by rw [he]) dX6_putWalled_87
      · refine lv_aload_n hx hb dX6_putWalled_50 rfl (lv_at hl 2 rfl) ?_
        refine lv_dup hx hb dX6_putWalled_51 rfl ?_
        refine va_get (D := (dC, dI)) (ci := 2) (v := .int u.2.2.1) (C := RX6) (T := TX6) (N := 7) hx hb hts hin6 hown hK hP 0 rfl rfl 6 (by decide) (hts (.fieldLink RX6 172 "SnapTable" "met" "I") (by decide +kernel)) (fun _ h9 => h9) rfl dX6_putWalled_52 ?_
        refine lv_iconst (v := (1 : Int32)) hx hb dX6_putWalled_55 (by decide) ?_
        refine lv_iadd hx hb dX6_putWalled_56 ?_
        refine va_put (D := (dC, dI)) (ci := 2) (v := .int (u.2.2.1 + (1 : Int32))) (ty := .int) (C := RX6) (T := TX6) (N := 7) hx hb hts hin6 tyX6 tyX6_ok nmX6 hown hK hP hD hS 0 rfl rfl 6 (by decide) (hts (.fieldLink RX6 172 "SnapTable" "met" "I") (by decide +kernel)) (fun _ h9 => h9) rfl (by decide +kernel) rfl rfl (Nat.le_of_ble_eq_true rfl) dX6_putWalled_57 (fun H locs hP hD hS => ?_)
        have hP : va_P (dC, dI) vwCl (WT ad ca (u.1, u.2.1, (u.2.2.1 + (1 : Int32)), u.2.2.2.1, u.2.2.2.2.1, u.2.2.2.2.2.1, u.2.2.2.2.2.2)) H := hP
        have hD : va_D (va_A (WT ad ca u) s.heap.size) (WT ad ca (u.1, u.2.1, (u.2.2.1 + (1 : Int32)), u.2.2.2.1, u.2.2.2.2.1, u.2.2.2.2.2.1, u.2.2.2.2.2.2)) := hD
        refine lv_lload hx hb dX6_putWalled_60 (lv_at hl 0 rfl) ?_
        refine lv_lload hx hb dX6_putWalled_62 (lv_at hl 5 rfl) ?_
        refine W.lcmp hx hb dX6_putWalled_64 ?_
        refine lv_if_eq (tgt := 78) hx hb dX6_putWalled_65 (by decide) (fun c_8 => ?_) (fun c_8 => ?_)
        · refine lv_aload_n hx hb dX6_putWalled_78 rfl (lv_at hl 2 rfl) ?_
          refine lv_iload_n hx hb dX6_putWalled_79 rfl (lv_at hl 3 rfl) ?_
          refine lv_lload hx hb dX6_putWalled_80 (lv_at hl 1 rfl) ?_
          refine lv_lload hx hb dX6_putWalled_82 (lv_at hl 0 rfl) ?_
          refine hc_M (C := RX6) (ci := 2) (T := TX6) (N := 7) (As := [.int a0, .long (mX0_walled u.2.2.2.1 a1), .long (mX0_walled u.2.2.2.2.1 a2)]) (rest := []) ⟨hx, hb, hml, hown, hts⟩ (ct_X6_put l dC dI ad ca _ (u.1, u.2.1, (u.2.2.1 + (1 : Int32)), u.2.2.2.1, u.2.2.2.2.1, u.2.2.2.2.2.1, u.2.2.2.2.2.2) a0 (mX0_walled u.2.2.2.1 a1) (mX0_walled u.2.2.2.2.1 a2) (by first | with_reducible assumption | with_reducible exact pt_in (by with_reducible assumption) | with_reducible exact hn) (by first | with_reducible assumption | with_reducible exact pt_in (by with_reducible assumption) | with_reducible exact hn)) (cwV 3 hts gX6_putWalled_X6_put rfl rfl rfl (by decide +kernel) ⟨Nat.le_of_ble_eq_true rfl, Nat.le_of_ble_eq_true rfl⟩) hP hD (hK.sub [0, 1, 2, 3, 4, 5] rfl) hNW hS hA [0, 1, 2, 3, 4, 5, 6, 7, 8, 9] [] rfl (wr := []) rfl (by decide) (by decide) (by decide) rfl rfl rfl hl.1 rfl (Nat.le_of_ble_eq_true rfl) dX6_putWalled_84 ⟨Nat.le_of_ble_eq_true rfl, Nat.le_of_ble_eq_true rfl⟩ (fun H locs hP hD hS => ?_)
          generalize hz_9 : mX6_put (u.1, u.2.1, (u.2.2.1 + (1 : Int32)), u.2.2.2.1, u.2.2.2.2.1, u.2.2.2.2.2.1, u.2.2.2.2.2.2) a0 (mX0_walled u.2.2.2.1 a1) (mX0_walled u.2.2.2.2.1 a2) = z_9 at hP hD ⊢
          have hP : va_P (dC, dI) vwCl (WT ad ca z_9.2) H := hP.sub [0, 1, 2, 3, 4, 5, 6, 7, 8, 9] rfl
          have hD : va_D (va_A (WT ad ca u) s.heap.size) (WT ad ca z_9.2) := hD.sub [0, 1, 2, 3, 4, 5, 6, 7, 8, 9] (by decide) rfl
          refine W.eq (g2 := F0 m 87 ls (.int z_9.1 :: [])) rfl ?_
          have he : mX6_putWalled u a0 a1 a2 = (z_9.1, z_9.2) := by rw [mX6_putWalled, if_pos c_1, if_pos c_3, if_neg c_4, if_pos c_8, hz_9]
          exact rM_i hx hb hr hlocks hP hD hS (by rw [he]) (by rw [he]) dX6_putWalled_87
        · refine lv_aload_n hx hb dX6_putWalled_68 rfl (lv_at hl 2 rfl) ?_
          refine lv_dup hx hb dX6_putWalled_69 rfl ?_
          refine va_get (D := (dC, dI)) (ci := 2) (v := .int (u.2.2.1 + (1 : Int32))) (C := RX6) (T := TX6) (N := 7) hx hb hts hin6 hown hK hP 0 rfl rfl 6 (by decide) (hts (.fieldLink RX6 172 "SnapTable" "met" "I") (by decide +kernel)) (fun _ h9 => h9) rfl dX6_putWalled_70 ?_
          refine lv_iconst (v := (1 : Int32)) hx hb dX6_putWalled_73 (by decide) ?_
          refine lv_iadd hx hb dX6_putWalled_74 ?_
          refine va_put (D := (dC, dI)) (ci := 2) (v := .int ((u.2.2.1 + (1 : Int32)) + (1 : Int32))) (ty := .int) (C := RX6) (T := TX6) (N := 7) hx hb hts hin6 tyX6 tyX6_ok nmX6 hown hK hP hD hS 0 rfl rfl 6 (by decide) (hts (.fieldLink RX6 172 "SnapTable" "met" "I") (by decide +kernel)) (fun _ h9 => h9) rfl (by decide +kernel) rfl rfl (Nat.le_of_ble_eq_true rfl) dX6_putWalled_75 (fun H locs hP hD hS => ?_)
          have hP : va_P (dC, dI) vwCl (WT ad ca (u.1, u.2.1, ((u.2.2.1 + (1 : Int32)) + (1 : Int32)), u.2.2.2.1, u.2.2.2.2.1, u.2.2.2.2.2.1, u.2.2.2.2.2.2)) H := hP
          have hD : va_D (va_A (WT ad ca u) s.heap.size) (WT ad ca (u.1, u.2.1, ((u.2.2.1 + (1 : Int32)) + (1 : Int32)), u.2.2.2.1, u.2.2.2.2.1, u.2.2.2.2.2.1, u.2.2.2.2.2.2)) := hD
          refine lv_aload_n hx hb dX6_putWalled_78 rfl (lv_at hl 2 rfl) ?_
          refine lv_iload_n hx hb dX6_putWalled_79 rfl (lv_at hl 3 rfl) ?_
          refine lv_lload hx hb dX6_putWalled_80 (lv_at hl 1 rfl) ?_
          refine lv_lload hx hb dX6_putWalled_82 (lv_at hl 0 rfl) ?_
          refine hc_M (C := RX6) (ci := 2) (T := TX6) (N := 7) (As := [.int a0, .long (mX0_walled u.2.2.2.1 a1), .long (mX0_walled u.2.2.2.2.1 a2)]) (rest := []) ⟨hx, hb, hml, hown, hts⟩ (ct_X6_put l dC dI ad ca _ (u.1, u.2.1, ((u.2.2.1 + (1 : Int32)) + (1 : Int32)), u.2.2.2.1, u.2.2.2.2.1, u.2.2.2.2.2.1, u.2.2.2.2.2.2) a0 (mX0_walled u.2.2.2.1 a1) (mX0_walled u.2.2.2.2.1 a2) (by first | with_reducible assumption | with_reducible exact pt_in (by with_reducible assumption) | with_reducible exact hn) (by first | with_reducible assumption | with_reducible exact pt_in (by with_reducible assumption) | with_reducible exact hn)) (cwV 3 hts gX6_putWalled_X6_put rfl rfl rfl (by decide +kernel) ⟨Nat.le_of_ble_eq_true rfl, Nat.le_of_ble_eq_true rfl⟩) hP hD (hK.sub [0, 1, 2, 3, 4, 5] rfl) hNW hS hA [0, 1, 2, 3, 4, 5, 6, 7, 8, 9] [] rfl (wr := []) rfl (by decide) (by decide) (by decide) rfl rfl rfl hl.1 rfl (Nat.le_of_ble_eq_true rfl) dX6_putWalled_84 ⟨Nat.le_of_ble_eq_true rfl, Nat.le_of_ble_eq_true rfl⟩ (fun H locs hP hD hS => ?_)
          generalize hz_10 : mX6_put (u.1, u.2.1, ((u.2.2.1 + (1 : Int32)) + (1 : Int32)), u.2.2.2.1, u.2.2.2.2.1, u.2.2.2.2.2.1, u.2.2.2.2.2.2) a0 (mX0_walled u.2.2.2.1 a1) (mX0_walled u.2.2.2.2.1 a2) = z_10 at hP hD ⊢
          have hP : va_P (dC, dI) vwCl (WT ad ca z_10.2) H := hP.sub [0, 1, 2, 3, 4, 5, 6, 7, 8, 9] rfl
          have hD : va_D (va_A (WT ad ca u) s.heap.size) (WT ad ca z_10.2) := hD.sub [0, 1, 2, 3, 4, 5, 6, 7, 8, 9] (by decide) rfl
          refine W.eq (g2 := F0 m 87 ls (.int z_10.1 :: [])) rfl ?_
          have he : mX6_putWalled u a0 a1 a2 = (z_10.1, z_10.2) := by rw [mX6_putWalled, if_pos c_1, if_pos c_3, if_neg c_4, if_neg c_8, hz_10]
          exact rM_i hx hb hr hlocks hP hD hS (by rw [he]) (by rw [he]) dX6_putWalled_87
    · refine lv_aload_n hx hb dX6_putWalled_37 rfl (lv_at hl 2 rfl) ?_
      refine lv_iconst (v := (5 : Int32)) hx hb dX6_putWalled_38 (by decide) ?_
      refine hc_M (C := RX6) (ci := 2) (T := TX6) (N := 7) (As := [.int (5 : Int32)]) (rest := []) ⟨hx, hb, hml, hown, hts⟩ (ct_X6_refuse l dC dI ad ca _ u (5 : Int32)) (cwV 1 hts gX6_putWalled_X6_refuse rfl rfl rfl (by decide +kernel) ⟨Nat.le_of_ble_eq_true rfl, Nat.le_of_ble_eq_true rfl⟩) hP hD (hK.sub [0, 1, 2, 3, 4, 5] rfl) hNW hS hA [0, 1, 2, 3, 4, 5, 6, 7, 8, 9] [] rfl (wr := []) rfl (by decide) (by decide) (by decide) rfl rfl rfl hl.1 rfl (Nat.le_of_ble_eq_true rfl) dX6_putWalled_39 ⟨Nat.le_of_ble_eq_true rfl, Nat.le_of_ble_eq_true rfl⟩ (fun H locs hP hD hS => ?_)
      generalize hz_11 : mX6_refuse u (5 : Int32) = z_11 at hP hD ⊢
      have hP : va_P (dC, dI) vwCl (WT ad ca z_11.2) H := hP.sub [0, 1, 2, 3, 4, 5, 6, 7, 8, 9] rfl
      have hD : va_D (va_A (WT ad ca u) s.heap.size) (WT ad ca z_11.2) := hD.sub [0, 1, 2, 3, 4, 5, 6, 7, 8, 9] (by decide) rfl
      refine W.eq (g2 := F0 m 42 ls (.int z_11.1 :: [])) rfl ?_
      have he : mX6_putWalled u a0 a1 a2 = (z_11.1, z_11.2) := by rw [mX6_putWalled, if_pos c_1, if_neg c_3, hz_11]
      exact rM_i hx hb hr hlocks hP hD hS (by rw [he]) (by rw [he]) dX6_putWalled_42

def mX6_fence_w (u : TS) (a1 : Int64) (a2 : Int64) : Int32 × TS := (if (mX1_isNone a1) = 0 then (if (mX1_isNone a2) = 0 then (if (Op.cmpValue (FP.dcmp (mX1_value a1) (mX1_value a2)) .g) < 0 then ((mX6_finish (u.1, u.2.1, (u.2.2.1 + (mX0_wallAll u.2.2.2.1 a1 a2).1), (mX0_wallAll u.2.2.2.1 a1 a2).2, u.2.2.2.2.1, (mX4_clear u.2.2.2.2.2.1), u.2.2.2.2.2.2)).1, (mX6_finish (u.1, u.2.1, (u.2.2.1 + (mX0_wallAll u.2.2.2.1 a1 a2).1), (mX0_wallAll u.2.2.2.1 a1 a2).2, u.2.2.2.2.1, (mX4_clear u.2.2.2.2.2.1), u.2.2.2.2.2.2)).2) else ((mX6_refuse u (4 : Int32)).1, (mX6_refuse u (4 : Int32)).2)) else ((mX6_refuse u (2 : Int32)).1, (mX6_refuse u (2 : Int32)).2)) else ((mX6_refuse u (2 : Int32)).1, (mX6_refuse u (2 : Int32)).2))
set_option maxHeartbeats 4000000 in
set_option maxRecDepth 100000 in
theorem ct_X6_fence_w (l : Launch) (dC : Nat → ClassId) (dI : Nat → Nat → Nat) (ad : Nat → Nat) (ca : Nat → ClassId) (sz : Nat) (u : TS) (a1 : Int64) (a2 : Int64) : Met l yX6_fence wsX6_fence { frames := 4, cells := 0, slots := 0, locals := 94 } (pM (dC, dI) vwCl [((ca 4), .long), ((ca 5), .long), ((ca 6), .long), ((ca 7), .int), ((ca 8), .long), ((ca 9), .long)] (WT ad ca u) sz [.ref (ad 0), .ref (ad 1), .long a1, .long a2]) (qM (dC, dI) vwCl (WT ad ca u) sz (some (.int (mX6_fence_w u a1 a2).1)) (WT ad ca (mX6_fence_w u a1 a2).2)) 0 0 (va_A (WT ad ca u) sz) := by
  refine Met.ofW (cc := cX6_fence) (maxL := 6) (ret := (some .int)) (by decide) rfl ?_
  intro p e s m args below meth c s₁ B hml hv
  obtain ⟨rfl, hsz, hP, hK, hD0, hNW⟩ := hv
  subst hsz
  have hx := B.exec
  have hb := B.bytes
  have hr := B.returns
  have hts := atoms_spec (ws := wsX6_fence) B.pre
  have hown : s.vm.findClass RX6 = some m.cls := findClass_of_methodNamed B.named
  have hlocks := B.notSynchronized
  have hin6 : ∀ w ∈ wsX60, w ∈ wsX6_fence := by decide +kernel
  have hD : va_D (va_A (WT ad ca u) s.heap.size) (WT ad ca u) := hD0.self
  have hA : ∀ q : Nat, s.heap.size ≤ q → va_A (WT ad ca u) s.heap.size q := fun q h => Or.inr h
  have hS : va_S (va_A (WT ad ca u) s.heap.size) s.heap s.heap [] := va_S.rf
  have hl := lv_entry ([.ref (ad 0), .ref (ad 1), .long a1, .long a2]) (n := 6) (Nat.le_of_ble_eq_true rfl)
  rw [lg_entry_eq]
  generalize (lg_sl ([.ref (ad 0), .ref (ad 1), .long a1, .long a2]) ++ List.replicate (6 - (lg_sl ([.ref (ad 0), .ref (ad 1), .long a1, .long a2])).length) Slot.unset).toArray = ls at hl ⊢
  have hl : lv_has ls 6 [(0, .ref (ad 0)), (1, .ref (ad 1)), (2, .long a1), (4, .long a2)] := hl
  refine lv_lload_n hx hb dX6_fence_0 rfl (lv_at hl 2 rfl) ?_
  refine hc_S (As := [.long a1]) (rest := []) ⟨hx, hb, hml, hown, hts⟩ (ct_X1_isNone l a1) (va_cwS 1 hts gX6_fence_X1_isNone rfl rfl rfl (by decide +kernel) ⟨Nat.le_of_ble_eq_true rfl, Nat.le_of_ble_eq_true rfl⟩) rfl hl.1 rfl (Nat.le_of_ble_eq_true rfl) dX6_fence_1 ⟨Nat.le_of_ble_eq_true rfl, Nat.le_of_ble_eq_true rfl⟩ ?_
  refine lv_if_ne (tgt := 15) hx hb dX6_fence_4 (by decide) (fun c_1 => ?_) (fun c_1 => ?_)
  · refine lv_aload_n hx hb dX6_fence_15 rfl (lv_at hl 0 rfl) ?_
    refine lv_iconst (v := (2 : Int32)) hx hb dX6_fence_16 (by decide) ?_
    refine hc_M (C := RX6) (ci := 2) (T := TX6) (N := 7) (As := [.int (2 : Int32)]) (rest := []) ⟨hx, hb, hml, hown, hts⟩ (ct_X6_refuse l dC dI ad ca _ u (2 : Int32)) (cwV 1 hts gX6_fence_X6_refuse rfl rfl rfl (by decide +kernel) ⟨Nat.le_of_ble_eq_true rfl, Nat.le_of_ble_eq_true rfl⟩) hP hD (hK.sub [0, 1, 2, 3, 4, 5] rfl) hNW hS hA [0, 1, 2, 3, 4, 5, 6, 7, 8, 9] [] rfl (wr := []) rfl (by decide) (by decide) (by decide) rfl rfl rfl hl.1 rfl (Nat.le_of_ble_eq_true rfl) dX6_fence_17 ⟨Nat.le_of_ble_eq_true rfl, Nat.le_of_ble_eq_true rfl⟩ (fun H locs hP hD hS => ?_)
    generalize hz_2 : mX6_refuse u (2 : Int32) = z_2 at hP hD ⊢
    have hP : va_P (dC, dI) vwCl (WT ad ca z_2.2) H := hP.sub [0, 1, 2, 3, 4, 5, 6, 7, 8, 9] rfl
    have hD : va_D (va_A (WT ad ca u) s.heap.size) (WT ad ca z_2.2) := hD.sub [0, 1, 2, 3, 4, 5, 6, 7, 8, 9] (by decide) rfl
    refine W.eq (g2 := F0 m 20 ls (.int z_2.1 :: [])) rfl ?_
    have he : mX6_fence_w u a1 a2 = (z_2.1, z_2.2) := by rw [mX6_fence_w, if_neg c_1, hz_2]
    exact rM_i hx hb hr hlocks hP hD hS (by rw [he]) (by rw [he]) dX6_fence_20
  · refine lv_lload hx hb dX6_fence_7 (lv_at hl 3 rfl) ?_
    refine hc_S (As := [.long a2]) (rest := []) ⟨hx, hb, hml, hown, hts⟩ (ct_X1_isNone l a2) (va_cwS 1 hts gX6_fence_X1_isNone rfl rfl rfl (by decide +kernel) ⟨Nat.le_of_ble_eq_true rfl, Nat.le_of_ble_eq_true rfl⟩) rfl hl.1 rfl (Nat.le_of_ble_eq_true rfl) dX6_fence_9 ⟨Nat.le_of_ble_eq_true rfl, Nat.le_of_ble_eq_true rfl⟩ ?_
    refine lv_if_eq (tgt := 21) hx hb dX6_fence_12 (by decide) (fun c_3 => ?_) (fun c_3 => ?_)
    · refine lv_lload_n hx hb dX6_fence_21 rfl (lv_at hl 2 rfl) ?_
      refine hc_S (As := [.long a1]) (rest := []) ⟨hx, hb, hml, hown, hts⟩ (ct_X1_value l a1) (va_cwS 1 hts gX6_fence_X1_value rfl rfl rfl (by decide +kernel) ⟨Nat.le_of_ble_eq_true rfl, Nat.le_of_ble_eq_true rfl⟩) rfl hl.1 rfl (Nat.le_of_ble_eq_true rfl) dX6_fence_22 ⟨Nat.le_of_ble_eq_true rfl, Nat.le_of_ble_eq_true rfl⟩ ?_
      refine lv_lload hx hb dX6_fence_25 (lv_at hl 3 rfl) ?_
      refine hc_S (As := [.long a2]) (rest := [.double (mX1_value a1)]) ⟨hx, hb, hml, hown, hts⟩ (ct_X1_value l a2) (va_cwS 1 hts gX6_fence_X1_value rfl rfl rfl (by decide +kernel) ⟨Nat.le_of_ble_eq_true rfl, Nat.le_of_ble_eq_true rfl⟩) rfl hl.1 rfl (Nat.le_of_ble_eq_true rfl) dX6_fence_27 ⟨Nat.le_of_ble_eq_true rfl, Nat.le_of_ble_eq_true rfl⟩ ?_
      refine lv_dcmp hx hb dX6_fence_30 ?_
      refine lv_if_lt (tgt := 40) hx hb dX6_fence_31 (by decide) (fun c_4 => ?_) (fun c_4 => ?_)
      · refine lv_aload_n hx hb dX6_fence_40 rfl (lv_at hl 0 rfl) ?_
        refine lv_dup hx hb dX6_fence_41 rfl ?_
        refine va_get (D := (dC, dI)) (ci := 2) (v := .int u.2.2.1) (C := RX6) (T := TX6) (N := 7) hx hb hts hin6 hown hK hP 0 rfl rfl 6 (by decide) (hts (.fieldLink RX6 172 "SnapTable" "met" "I") (by decide +kernel)) (fun _ h9 => h9) rfl dX6_fence_42 ?_
        refine lv_aload_n hx hb dX6_fence_45 rfl (lv_at hl 1 rfl) ?_
        refine lv_lload_n hx hb dX6_fence_46 rfl (lv_at hl 2 rfl) ?_
        refine lv_lload hx hb dX6_fence_47 (lv_at hl 3 rfl) ?_
        refine hc_M (C := RX0) (ci := 0) (T := TX0) (N := 5) (As := [.long a1, .long a2]) (rest := [.int u.2.2.1, .ref (ad 0)]) ⟨hx, hb, hml, hown, hts⟩ (ct_X0_wallAll l dC dI (ad 1) (ad 5) (ca 5) 0 _ u.2.2.2.1 a1 a2) (cwV 2 hts gX6_fence_X0_wallAll rfl rfl rfl (by decide +kernel) ⟨Nat.le_of_ble_eq_true rfl, Nat.le_of_ble_eq_true rfl⟩) hP hD (hK.sub [1] rfl) hNW hS hA [1, 5] [0, 2, 3, 4, 6, 7, 8, 9] rfl (wr := [((ad 0), .inr (2, [.ref (ad 1), .ref (ad 2), .ref (ad 3), .ref (ad 4), .int u.1, .int u.2.1, .int u.2.2.1])), ((ad 2), .inr (0, [.int 1, .ref (ad 6), .long u.2.2.2.2.1.1, .long u.2.2.2.2.1.2.1, .long u.2.2.2.2.1.2.2.1])), ((ad 3), .inr (1, [.ref (ad 7), .ref (ad 8), .ref (ad 9), .int u.2.2.2.2.2.1.1, .int u.2.2.2.2.2.1.2.1])), ((ad 4), .inl ((ca 4), 4, .inr (.inl u.2.2.2.2.2.2))), ((ad 6), .inl ((ca 6), 8, .inr (.inl u.2.2.2.2.1.2.2.2))), ((ad 7), .inl ((ca 7), 16, .inl u.2.2.2.2.2.1.2.2.1)), ((ad 8), .inl ((ca 8), 16, .inr (.inl u.2.2.2.2.2.1.2.2.2.1))), ((ad 9), .inl ((ca 9), 16, .inr (.inl u.2.2.2.2.2.1.2.2.2.2)))]) rfl (by decide) (by decide) (by decide) rfl rfl rfl hl.1 rfl (Nat.le_of_ble_eq_true rfl) dX6_fence_49 ⟨Nat.le_of_ble_eq_true rfl, Nat.le_of_ble_eq_true rfl⟩ (fun H locs hP hD hS => ?_)
        generalize hz_5 : mX0_wallAll u.2.2.2.1 a1 a2 = z_5 at hP hD ⊢
        have hP : va_P (dC, dI) vwCl (WT ad ca (u.1, u.2.1, u.2.2.1, z_5.2, u.2.2.2.2.1, u.2.2.2.2.2.1, u.2.2.2.2.2.2)) H := hP.sub [0, 8, 1, 2, 3, 9, 4, 5, 6, 7] rfl
        have hD : va_D (va_A (WT ad ca u) s.heap.size) (WT ad ca (u.1, u.2.1, u.2.2.1, z_5.2, u.2.2.2.2.1, u.2.2.2.2.2.1, u.2.2.2.2.2.2)) := hD.sub [0, 8, 1, 2, 3, 9, 4, 5, 6, 7] (by decide) rfl
        refine W.eq (g2 := F0 m 52 ls (.int z_5.1 :: [.int u.2.2.1, .ref (ad 0)])) rfl ?_
        refine lv_iadd hx hb dX6_fence_52 ?_
        refine va_put (D := (dC, dI)) (ci := 2) (v := .int (u.2.2.1 + z_5.1)) (ty := .int) (C := RX6) (T := TX6) (N := 7) hx hb hts hin6 tyX6 tyX6_ok nmX6 hown hK hP hD hS 0 rfl rfl 6 (by decide) (hts (.fieldLink RX6 172 "SnapTable" "met" "I") (by decide +kernel)) (fun _ h9 => h9) rfl (by decide +kernel) rfl rfl (Nat.le_of_ble_eq_true rfl) dX6_fence_53 (fun H locs hP hD hS => ?_)
        have hP : va_P (dC, dI) vwCl (WT ad ca (u.1, u.2.1, (u.2.2.1 + z_5.1), z_5.2, u.2.2.2.2.1, u.2.2.2.2.2.1, u.2.2.2.2.2.2)) H := hP
        have hD : va_D (va_A (WT ad ca u) s.heap.size) (WT ad ca (u.1, u.2.1, (u.2.2.1 + z_5.1), z_5.2, u.2.2.2.2.1, u.2.2.2.2.2.1, u.2.2.2.2.2.2)) := hD
        refine lv_aload_n hx hb dX6_fence_56 rfl (lv_at hl 0 rfl) ?_
        refine va_get (D := (dC, dI)) (ci := 2) (v := .ref (ad 3)) (C := RX6) (T := TX6) (N := 7) hx hb hts hin6 hown hK hP 0 rfl rfl 2 (by decide) (hts (.fieldLink RX6 24 "SnapTable" "trail" "LSnapTable$Trail;") (by decide +kernel)) (fun _ h9 => h9) rfl dX6_fence_57 ?_
        refine hc_M (C := RX4) (ci := 1) (T := TX4) (N := 5) (As := []) (rest := []) ⟨hx, hb, hml, hown, hts⟩ (ct_X4_clear l dC dI (ad 3) (ad 7) (ad 8) (ad 9) (ca 7) (ca 8) (ca 9) _ u.2.2.2.2.2.1) (cwV 0 hts gX6_fence_X4_clear rfl rfl rfl (by decide +kernel) ⟨Nat.le_of_ble_eq_true rfl, Nat.le_of_ble_eq_true rfl⟩) hP hD (hK.sub [3, 4, 5] rfl) hNW hS hA [3, 7, 8, 9] [0, 1, 2, 4, 5, 6] rfl (wr := [((ad 0), .inr (2, [.ref (ad 1), .ref (ad 2), .ref (ad 3), .ref (ad 4), .int u.1, .int u.2.1, .int (u.2.2.1 + z_5.1)])), ((ad 1), .inr (0, [.int 0, .ref (ad 5), .long z_5.2.1, .long z_5.2.2.1, .long z_5.2.2.2.1])), ((ad 2), .inr (0, [.int 1, .ref (ad 6), .long u.2.2.2.2.1.1, .long u.2.2.2.2.1.2.1, .long u.2.2.2.2.1.2.2.1])), ((ad 4), .inl ((ca 4), 4, .inr (.inl u.2.2.2.2.2.2))), ((ad 5), .inl ((ca 5), 8, .inr (.inl z_5.2.2.2.2))), ((ad 6), .inl ((ca 6), 8, .inr (.inl u.2.2.2.2.1.2.2.2)))]) rfl (by decide) (by decide) (by decide) rfl rfl rfl hl.1 rfl (Nat.le_of_ble_eq_true rfl) dX6_fence_60 ⟨Nat.le_of_ble_eq_true rfl, Nat.le_of_ble_eq_true rfl⟩ (fun H locs hP hD hS => ?_)
        generalize hz_6 : mX4_clear u.2.2.2.2.2.1 = z_6 at hP hD
        have hP : va_P (dC, dI) vwCl (WT ad ca (u.1, u.2.1, (u.2.2.1 + z_5.1), z_5.2, u.2.2.2.2.1, z_6, u.2.2.2.2.2.2)) H := hP.sub [0, 1, 2, 6, 3, 4, 5, 7, 8, 9] rfl
        have hD : va_D (va_A (WT ad ca u) s.heap.size) (WT ad ca (u.1, u.2.1, (u.2.2.1 + z_5.1), z_5.2, u.2.2.2.2.1, z_6, u.2.2.2.2.2.2)) := hD.sub [0, 1, 2, 6, 3, 4, 5, 7, 8, 9] (by decide) rfl
        refine lv_aload_n hx hb dX6_fence_63 rfl (lv_at hl 0 rfl) ?_
        refine hc_M (C := RX6) (ci := 2) (T := TX6) (N := 7) (As := []) (rest := []) ⟨hx, hb, hml, hown, hts⟩ (ct_X6_finish l dC dI ad ca _ (u.1, u.2.1, (u.2.2.1 + z_5.1), z_5.2, u.2.2.2.2.1, z_6, u.2.2.2.2.2.2)) (cwV 0 hts gX6_fence_X6_finish rfl rfl rfl (by decide +kernel) ⟨Nat.le_of_ble_eq_true rfl, Nat.le_of_ble_eq_true rfl⟩) hP hD (hK.sub [0, 1, 2, 3, 4, 5] rfl) hNW hS hA [0, 1, 2, 3, 4, 5, 6, 7, 8, 9] [] rfl (wr := []) rfl (by decide) (by decide) (by decide) rfl rfl rfl hl.1 rfl (Nat.le_of_ble_eq_true rfl) dX6_fence_64 ⟨Nat.le_of_ble_eq_true rfl, Nat.le_of_ble_eq_true rfl⟩ (fun H locs hP hD hS => ?_)
        generalize hz_7 : mX6_finish (u.1, u.2.1, (u.2.2.1 + z_5.1), z_5.2, u.2.2.2.2.1, z_6, u.2.2.2.2.2.2) = z_7 at hP hD ⊢
        have hP : va_P (dC, dI) vwCl (WT ad ca z_7.2) H := hP.sub [0, 1, 2, 3, 4, 5, 6, 7, 8, 9] rfl
        have hD : va_D (va_A (WT ad ca u) s.heap.size) (WT ad ca z_7.2) := hD.sub [0, 1, 2, 3, 4, 5, 6, 7, 8, 9] (by decide) rfl
        refine W.eq (g2 := F0 m 67 ls (.int z_7.1 :: [])) rfl ?_
        have he : mX6_fence_w u a1 a2 = (z_7.1, z_7.2) := by rw [mX6_fence_w, if_pos c_1, if_pos c_3, if_pos c_4, hz_5, hz_6, hz_7]
        exact rM_i hx hb hr hlocks hP hD hS (by rw [he]) (by rw [he]) dX6_fence_67
      · refine lv_aload_n hx hb dX6_fence_34 rfl (lv_at hl 0 rfl) ?_
        refine lv_iconst (v := (4 : Int32)) hx hb dX6_fence_35 (by decide) ?_
        refine hc_M (C := RX6) (ci := 2) (T := TX6) (N := 7) (As := [.int (4 : Int32)]) (rest := []) ⟨hx, hb, hml, hown, hts⟩ (ct_X6_refuse l dC dI ad ca _ u (4 : Int32)) (cwV 1 hts gX6_fence_X6_refuse rfl rfl rfl (by decide +kernel) ⟨Nat.le_of_ble_eq_true rfl, Nat.le_of_ble_eq_true rfl⟩) hP hD (hK.sub [0, 1, 2, 3, 4, 5] rfl) hNW hS hA [0, 1, 2, 3, 4, 5, 6, 7, 8, 9] [] rfl (wr := []) rfl (by decide) (by decide) (by decide) rfl rfl rfl hl.1 rfl (Nat.le_of_ble_eq_true rfl) dX6_fence_36 ⟨Nat.le_of_ble_eq_true rfl, Nat.le_of_ble_eq_true rfl⟩ (fun H locs hP hD hS => ?_)
        generalize hz_8 : mX6_refuse u (4 : Int32) = z_8 at hP hD ⊢
        have hP : va_P (dC, dI) vwCl (WT ad ca z_8.2) H := hP.sub [0, 1, 2, 3, 4, 5, 6, 7, 8, 9] rfl
        have hD : va_D (va_A (WT ad ca u) s.heap.size) (WT ad ca z_8.2) := hD.sub [0, 1, 2, 3, 4, 5, 6, 7, 8, 9] (by decide) rfl
        refine W.eq (g2 := F0 m 39 ls (.int z_8.1 :: [])) rfl ?_
        have he : mX6_fence_w u a1 a2 = (z_8.1, z_8.2) := by rw [mX6_fence_w, if_pos c_1, if_pos c_3, if_neg c_4, hz_8]
        exact rM_i hx hb hr hlocks hP hD hS (by rw [he]) (by rw [he]) dX6_fence_39
    · refine lv_aload_n hx hb dX6_fence_15 rfl (lv_at hl 0 rfl) ?_
      refine lv_iconst (v := (2 : Int32)) hx hb dX6_fence_16 (by decide) ?_
      refine hc_M (C := RX6) (ci := 2) (T := TX6) (N := 7) (As := [.int (2 : Int32)]) (rest := []) ⟨hx, hb, hml, hown, hts⟩ (ct_X6_refuse l dC dI ad ca _ u (2 : Int32)) (cwV 1 hts gX6_fence_X6_refuse rfl rfl rfl (by decide +kernel) ⟨Nat.le_of_ble_eq_true rfl, Nat.le_of_ble_eq_true rfl⟩) hP hD (hK.sub [0, 1, 2, 3, 4, 5] rfl) hNW hS hA [0, 1, 2, 3, 4, 5, 6, 7, 8, 9] [] rfl (wr := []) rfl (by decide) (by decide) (by decide) rfl rfl rfl hl.1 rfl (Nat.le_of_ble_eq_true rfl) dX6_fence_17 ⟨Nat.le_of_ble_eq_true rfl, Nat.le_of_ble_eq_true rfl⟩ (fun H locs hP hD hS => ?_)
      generalize hz_9 : mX6_refuse u (2 : Int32) = z_9 at hP hD ⊢
      have hP : va_P (dC, dI) vwCl (WT ad ca z_9.2) H := hP.sub [0, 1, 2, 3, 4, 5, 6, 7, 8, 9] rfl
      have hD : va_D (va_A (WT ad ca u) s.heap.size) (WT ad ca z_9.2) := hD.sub [0, 1, 2, 3, 4, 5, 6, 7, 8, 9] (by decide) rfl
      refine W.eq (g2 := F0 m 20 ls (.int z_9.1 :: [])) rfl ?_
      have he : mX6_fence_w u a1 a2 = (z_9.1, z_9.2) := by rw [mX6_fence_w, if_pos c_1, if_neg c_3, hz_9]
      exact rM_i hx hb hr hlocks hP hD hS (by rw [he]) (by rw [he]) dX6_fence_20

def mX6_fence_h (u : TS) (a1 : Int64) (a2 : Int64) : Int32 × TS := (if (mX1_isNone a1) = 0 then (if (mX1_isNone a2) = 0 then (if (Op.cmpValue (FP.dcmp (mX1_value a1) (mX1_value a2)) .g) < 0 then ((mX6_finish (u.1, u.2.1, (u.2.2.1 + (mX0_wallAll u.2.2.2.2.1 a1 a2).1), u.2.2.2.1, (mX0_wallAll u.2.2.2.2.1 a1 a2).2, (mX4_clear u.2.2.2.2.2.1), u.2.2.2.2.2.2)).1, (mX6_finish (u.1, u.2.1, (u.2.2.1 + (mX0_wallAll u.2.2.2.2.1 a1 a2).1), u.2.2.2.1, (mX0_wallAll u.2.2.2.2.1 a1 a2).2, (mX4_clear u.2.2.2.2.2.1), u.2.2.2.2.2.2)).2) else ((mX6_refuse u (4 : Int32)).1, (mX6_refuse u (4 : Int32)).2)) else ((mX6_refuse u (2 : Int32)).1, (mX6_refuse u (2 : Int32)).2)) else ((mX6_refuse u (2 : Int32)).1, (mX6_refuse u (2 : Int32)).2))
set_option maxHeartbeats 4000000 in
set_option maxRecDepth 100000 in
theorem ct_X6_fence_h (l : Launch) (dC : Nat → ClassId) (dI : Nat → Nat → Nat) (ad : Nat → Nat) (ca : Nat → ClassId) (sz : Nat) (u : TS) (a1 : Int64) (a2 : Int64) : Met l yX6_fence wsX6_fence { frames := 4, cells := 0, slots := 0, locals := 94 } (pM (dC, dI) vwCl [((ca 4), .long), ((ca 5), .long), ((ca 6), .long), ((ca 7), .int), ((ca 8), .long), ((ca 9), .long)] (WT ad ca u) sz [.ref (ad 0), .ref (ad 2), .long a1, .long a2]) (qM (dC, dI) vwCl (WT ad ca u) sz (some (.int (mX6_fence_h u a1 a2).1)) (WT ad ca (mX6_fence_h u a1 a2).2)) 0 0 (va_A (WT ad ca u) sz) := by
  refine Met.ofW (cc := cX6_fence) (maxL := 6) (ret := (some .int)) (by decide) rfl ?_
  intro p e s m args below meth c s₁ B hml hv
  obtain ⟨rfl, hsz, hP, hK, hD0, hNW⟩ := hv
  subst hsz
  have hx := B.exec
  have hb := B.bytes
  have hr := B.returns
  have hts := atoms_spec (ws := wsX6_fence) B.pre
  have hown : s.vm.findClass RX6 = some m.cls := findClass_of_methodNamed B.named
  have hlocks := B.notSynchronized
  have hin6 : ∀ w ∈ wsX60, w ∈ wsX6_fence := by decide +kernel
  have hD : va_D (va_A (WT ad ca u) s.heap.size) (WT ad ca u) := hD0.self
  have hA : ∀ q : Nat, s.heap.size ≤ q → va_A (WT ad ca u) s.heap.size q := fun q h => Or.inr h
  have hS : va_S (va_A (WT ad ca u) s.heap.size) s.heap s.heap [] := va_S.rf
  have hl := lv_entry ([.ref (ad 0), .ref (ad 2), .long a1, .long a2]) (n := 6) (Nat.le_of_ble_eq_true rfl)
  rw [lg_entry_eq]
  generalize (lg_sl ([.ref (ad 0), .ref (ad 2), .long a1, .long a2]) ++ List.replicate (6 - (lg_sl ([.ref (ad 0), .ref (ad 2), .long a1, .long a2])).length) Slot.unset).toArray = ls at hl ⊢
  have hl : lv_has ls 6 [(0, .ref (ad 0)), (1, .ref (ad 2)), (2, .long a1), (4, .long a2)] := hl
  refine lv_lload_n hx hb dX6_fence_0 rfl (lv_at hl 2 rfl) ?_
  refine hc_S (As := [.long a1]) (rest := []) ⟨hx, hb, hml, hown, hts⟩ (ct_X1_isNone l a1) (va_cwS 1 hts gX6_fence_X1_isNone rfl rfl rfl (by decide +kernel) ⟨Nat.le_of_ble_eq_true rfl, Nat.le_of_ble_eq_true rfl⟩) rfl hl.1 rfl (Nat.le_of_ble_eq_true rfl) dX6_fence_1 ⟨Nat.le_of_ble_eq_true rfl, Nat.le_of_ble_eq_true rfl⟩ ?_
  refine lv_if_ne (tgt := 15) hx hb dX6_fence_4 (by decide) (fun c_1 => ?_) (fun c_1 => ?_)
  · refine lv_aload_n hx hb dX6_fence_15 rfl (lv_at hl 0 rfl) ?_
    refine lv_iconst (v := (2 : Int32)) hx hb dX6_fence_16 (by decide) ?_
    refine hc_M (C := RX6) (ci := 2) (T := TX6) (N := 7) (As := [.int (2 : Int32)]) (rest := []) ⟨hx, hb, hml, hown, hts⟩ (ct_X6_refuse l dC dI ad ca _ u (2 : Int32)) (cwV 1 hts gX6_fence_X6_refuse rfl rfl rfl (by decide +kernel) ⟨Nat.le_of_ble_eq_true rfl, Nat.le_of_ble_eq_true rfl⟩) hP hD (hK.sub [0, 1, 2, 3, 4, 5] rfl) hNW hS hA [0, 1, 2, 3, 4, 5, 6, 7, 8, 9] [] rfl (wr := []) rfl (by decide) (by decide) (by decide) rfl rfl rfl hl.1 rfl (Nat.le_of_ble_eq_true rfl) dX6_fence_17 ⟨Nat.le_of_ble_eq_true rfl, Nat.le_of_ble_eq_true rfl⟩ (fun H locs hP hD hS => ?_)
    generalize hz_2 : mX6_refuse u (2 : Int32) = z_2 at hP hD ⊢
    have hP : va_P (dC, dI) vwCl (WT ad ca z_2.2) H := hP.sub [0, 1, 2, 3, 4, 5, 6, 7, 8, 9] rfl
    have hD : va_D (va_A (WT ad ca u) s.heap.size) (WT ad ca z_2.2) := hD.sub [0, 1, 2, 3, 4, 5, 6, 7, 8, 9] (by decide) rfl
    refine W.eq (g2 := F0 m 20 ls (.int z_2.1 :: [])) rfl ?_
    have he : mX6_fence_h u a1 a2 = (z_2.1, z_2.2) := by rw [mX6_fence_h, if_neg c_1, hz_2]
    exact rM_i hx hb hr hlocks hP hD hS (by rw [he]) (by rw [he]) dX6_fence_20
  · refine lv_lload hx hb dX6_fence_7 (lv_at hl 3 rfl) ?_
    refine hc_S (As := [.long a2]) (rest := []) ⟨hx, hb, hml, hown, hts⟩ (ct_X1_isNone l a2) (va_cwS 1 hts gX6_fence_X1_isNone rfl rfl rfl (by decide +kernel) ⟨Nat.le_of_ble_eq_true rfl, Nat.le_of_ble_eq_true rfl⟩) rfl hl.1 rfl (Nat.le_of_ble_eq_true rfl) dX6_fence_9 ⟨Nat.le_of_ble_eq_true rfl, Nat.le_of_ble_eq_true rfl⟩ ?_
    refine lv_if_eq (tgt := 21) hx hb dX6_fence_12 (by decide) (fun c_3 => ?_) (fun c_3 => ?_)
    · refine lv_lload_n hx hb dX6_fence_21 rfl (lv_at hl 2 rfl) ?_
      refine hc_S (As := [.long a1]) (rest := []) ⟨hx, hb, hml, hown, hts⟩ (ct_X1_value l a1) (va_cwS 1 hts gX6_fence_X1_value rfl rfl rfl (by decide +kernel) ⟨Nat.le_of_ble_eq_true rfl, Nat.le_of_ble_eq_true rfl⟩) rfl hl.1 rfl (Nat.le_of_ble_eq_true rfl) dX6_fence_22 ⟨Nat.le_of_ble_eq_true rfl, Nat.le_of_ble_eq_true rfl⟩ ?_
      refine lv_lload hx hb dX6_fence_25 (lv_at hl 3 rfl) ?_
      refine hc_S (As := [.long a2]) (rest := [.double (mX1_value a1)]) ⟨hx, hb, hml, hown, hts⟩ (ct_X1_value l a2) (va_cwS 1 hts gX6_fence_X1_value rfl rfl rfl (by decide +kernel) ⟨Nat.le_of_ble_eq_true rfl, Nat.le_of_ble_eq_true rfl⟩) rfl hl.1 rfl (Nat.le_of_ble_eq_true rfl) dX6_fence_27 ⟨Nat.le_of_ble_eq_true rfl, Nat.le_of_ble_eq_true rfl⟩ ?_
      refine lv_dcmp hx hb dX6_fence_30 ?_
      refine lv_if_lt (tgt := 40) hx hb dX6_fence_31 (by decide) (fun c_4 => ?_) (fun c_4 => ?_)
      · refine lv_aload_n hx hb dX6_fence_40 rfl (lv_at hl 0 rfl) ?_
        refine lv_dup hx hb dX6_fence_41 rfl ?_
        refine va_get (D := (dC, dI)) (ci := 2) (v := .int u.2.2.1) (C := RX6) (T := TX6) (N := 7) hx hb hts hin6 hown hK hP 0 rfl rfl 6 (by decide) (hts (.fieldLink RX6 172 "SnapTable" "met" "I") (by decide +kernel)) (fun _ h9 => h9) rfl dX6_fence_42 ?_
        refine lv_aload_n hx hb dX6_fence_45 rfl (lv_at hl 1 rfl) ?_
        refine lv_lload_n hx hb dX6_fence_46 rfl (lv_at hl 2 rfl) ?_
        refine lv_lload hx hb dX6_fence_47 (lv_at hl 3 rfl) ?_
        refine hc_M (C := RX0) (ci := 0) (T := TX0) (N := 5) (As := [.long a1, .long a2]) (rest := [.int u.2.2.1, .ref (ad 0)]) ⟨hx, hb, hml, hown, hts⟩ (ct_X0_wallAll l dC dI (ad 2) (ad 6) (ca 6) 1 _ u.2.2.2.2.1 a1 a2) (cwV 2 hts gX6_fence_X0_wallAll rfl rfl rfl (by decide +kernel) ⟨Nat.le_of_ble_eq_true rfl, Nat.le_of_ble_eq_true rfl⟩) hP hD (hK.sub [2] rfl) hNW hS hA [2, 6] [0, 1, 3, 4, 5, 7, 8, 9] rfl (wr := [((ad 0), .inr (2, [.ref (ad 1), .ref (ad 2), .ref (ad 3), .ref (ad 4), .int u.1, .int u.2.1, .int u.2.2.1])), ((ad 1), .inr (0, [.int 0, .ref (ad 5), .long u.2.2.2.1.1, .long u.2.2.2.1.2.1, .long u.2.2.2.1.2.2.1])), ((ad 3), .inr (1, [.ref (ad 7), .ref (ad 8), .ref (ad 9), .int u.2.2.2.2.2.1.1, .int u.2.2.2.2.2.1.2.1])), ((ad 4), .inl ((ca 4), 4, .inr (.inl u.2.2.2.2.2.2))), ((ad 5), .inl ((ca 5), 8, .inr (.inl u.2.2.2.1.2.2.2))), ((ad 7), .inl ((ca 7), 16, .inl u.2.2.2.2.2.1.2.2.1)), ((ad 8), .inl ((ca 8), 16, .inr (.inl u.2.2.2.2.2.1.2.2.2.1))), ((ad 9), .inl ((ca 9), 16, .inr (.inl u.2.2.2.2.2.1.2.2.2.2)))]) rfl (by decide) (by decide) (by decide) rfl rfl rfl hl.1 rfl (Nat.le_of_ble_eq_true rfl) dX6_fence_49 ⟨Nat.le_of_ble_eq_true rfl, Nat.le_of_ble_eq_true rfl⟩ (fun H locs hP hD hS => ?_)
        generalize hz_5 : mX0_wallAll u.2.2.2.2.1 a1 a2 = z_5 at hP hD ⊢
        have hP : va_P (dC, dI) vwCl (WT ad ca (u.1, u.2.1, u.2.2.1, u.2.2.2.1, z_5.2, u.2.2.2.2.2.1, u.2.2.2.2.2.2)) H := hP.sub [0, 1, 8, 2, 3, 4, 9, 5, 6, 7] rfl
        have hD : va_D (va_A (WT ad ca u) s.heap.size) (WT ad ca (u.1, u.2.1, u.2.2.1, u.2.2.2.1, z_5.2, u.2.2.2.2.2.1, u.2.2.2.2.2.2)) := hD.sub [0, 1, 8, 2, 3, 4, 9, 5, 6, 7] (by decide) rfl
        refine W.eq (g2 := F0 m 52 ls (.int z_5.1 :: [.int u.2.2.1, .ref (ad 0)])) rfl ?_
        refine lv_iadd hx hb dX6_fence_52 ?_
        refine va_put (D := (dC, dI)) (ci := 2) (v := .int (u.2.2.1 + z_5.1)) (ty := .int) (C := RX6) (T := TX6) (N := 7) hx hb hts hin6 tyX6 tyX6_ok nmX6 hown hK hP hD hS 0 rfl rfl 6 (by decide) (hts (.fieldLink RX6 172 "SnapTable" "met" "I") (by decide +kernel)) (fun _ h9 => h9) rfl (by decide +kernel) rfl rfl (Nat.le_of_ble_eq_true rfl) dX6_fence_53 (fun H locs hP hD hS => ?_)
        have hP : va_P (dC, dI) vwCl (WT ad ca (u.1, u.2.1, (u.2.2.1 + z_5.1), u.2.2.2.1, z_5.2, u.2.2.2.2.2.1, u.2.2.2.2.2.2)) H := hP
        have hD : va_D (va_A (WT ad ca u) s.heap.size) (WT ad ca (u.1, u.2.1, (u.2.2.1 + z_5.1), u.2.2.2.1, z_5.2, u.2.2.2.2.2.1, u.2.2.2.2.2.2)) := hD
        refine lv_aload_n hx hb dX6_fence_56 rfl (lv_at hl 0 rfl) ?_
        refine va_get (D := (dC, dI)) (ci := 2) (v := .ref (ad 3)) (C := RX6) (T := TX6) (N := 7) hx hb hts hin6 hown hK hP 0 rfl rfl 2 (by decide) (hts (.fieldLink RX6 24 "SnapTable" "trail" "LSnapTable$Trail;") (by decide +kernel)) (fun _ h9 => h9) rfl dX6_fence_57 ?_
        refine hc_M (C := RX4) (ci := 1) (T := TX4) (N := 5) (As := []) (rest := []) ⟨hx, hb, hml, hown, hts⟩ (ct_X4_clear l dC dI (ad 3) (ad 7) (ad 8) (ad 9) (ca 7) (ca 8) (ca 9) _ u.2.2.2.2.2.1) (cwV 0 hts gX6_fence_X4_clear rfl rfl rfl (by decide +kernel) ⟨Nat.le_of_ble_eq_true rfl, Nat.le_of_ble_eq_true rfl⟩) hP hD (hK.sub [3, 4, 5] rfl) hNW hS hA [3, 7, 8, 9] [0, 1, 2, 4, 5, 6] rfl (wr := [((ad 0), .inr (2, [.ref (ad 1), .ref (ad 2), .ref (ad 3), .ref (ad 4), .int u.1, .int u.2.1, .int (u.2.2.1 + z_5.1)])), ((ad 1), .inr (0, [.int 0, .ref (ad 5), .long u.2.2.2.1.1, .long u.2.2.2.1.2.1, .long u.2.2.2.1.2.2.1])), ((ad 2), .inr (0, [.int 1, .ref (ad 6), .long z_5.2.1, .long z_5.2.2.1, .long z_5.2.2.2.1])), ((ad 4), .inl ((ca 4), 4, .inr (.inl u.2.2.2.2.2.2))), ((ad 5), .inl ((ca 5), 8, .inr (.inl u.2.2.2.1.2.2.2))), ((ad 6), .inl ((ca 6), 8, .inr (.inl z_5.2.2.2.2)))]) rfl (by decide) (by decide) (by decide) rfl rfl rfl hl.1 rfl (Nat.le_of_ble_eq_true rfl) dX6_fence_60 ⟨Nat.le_of_ble_eq_true rfl, Nat.le_of_ble_eq_true rfl⟩ (fun H locs hP hD hS => ?_)
        generalize hz_6 : mX4_clear u.2.2.2.2.2.1 = z_6 at hP hD
        have hP : va_P (dC, dI) vwCl (WT ad ca (u.1, u.2.1, (u.2.2.1 + z_5.1), u.2.2.2.1, z_5.2, z_6, u.2.2.2.2.2.2)) H := hP.sub [0, 1, 2, 6, 3, 4, 5, 7, 8, 9] rfl
        have hD : va_D (va_A (WT ad ca u) s.heap.size) (WT ad ca (u.1, u.2.1, (u.2.2.1 + z_5.1), u.2.2.2.1, z_5.2, z_6, u.2.2.2.2.2.2)) := hD.sub [0, 1, 2, 6, 3, 4, 5, 7, 8, 9] (by decide) rfl
        refine lv_aload_n hx hb dX6_fence_63 rfl (lv_at hl 0 rfl) ?_
        refine hc_M (C := RX6) (ci := 2) (T := TX6) (N := 7) (As := []) (rest := []) ⟨hx, hb, hml, hown, hts⟩ (ct_X6_finish l dC dI ad ca _ (u.1, u.2.1, (u.2.2.1 + z_5.1), u.2.2.2.1, z_5.2, z_6, u.2.2.2.2.2.2)) (cwV 0 hts gX6_fence_X6_finish rfl rfl rfl (by decide +kernel) ⟨Nat.le_of_ble_eq_true rfl, Nat.le_of_ble_eq_true rfl⟩) hP hD (hK.sub [0, 1, 2, 3, 4, 5] rfl) hNW hS hA [0, 1, 2, 3, 4, 5, 6, 7, 8, 9] [] rfl (wr := []) rfl (by decide) (by decide) (by decide) rfl rfl rfl hl.1 rfl (Nat.le_of_ble_eq_true rfl) dX6_fence_64 ⟨Nat.le_of_ble_eq_true rfl, Nat.le_of_ble_eq_true rfl⟩ (fun H locs hP hD hS => ?_)
        generalize hz_7 : mX6_finish (u.1, u.2.1, (u.2.2.1 + z_5.1), u.2.2.2.1, z_5.2, z_6, u.2.2.2.2.2.2) = z_7 at hP hD ⊢
        have hP : va_P (dC, dI) vwCl (WT ad ca z_7.2) H := hP.sub [0, 1, 2, 3, 4, 5, 6, 7, 8, 9] rfl
        have hD : va_D (va_A (WT ad ca u) s.heap.size) (WT ad ca z_7.2) := hD.sub [0, 1, 2, 3, 4, 5, 6, 7, 8, 9] (by decide) rfl
        refine W.eq (g2 := F0 m 67 ls (.int z_7.1 :: [])) rfl ?_
        have he : mX6_fence_h u a1 a2 = (z_7.1, z_7.2) := by rw [mX6_fence_h, if_pos c_1, if_pos c_3, if_pos c_4, hz_5, hz_6, hz_7]
        exact rM_i hx hb hr hlocks hP hD hS (by rw [he]) (by rw [he]) dX6_fence_67
      · refine lv_aload_n hx hb dX6_fence_34 rfl (lv_at hl 0 rfl) ?_
        refine lv_iconst (v := (4 : Int32)) hx hb dX6_fence_35 (by decide) ?_
        refine hc_M (C := RX6) (ci := 2) (T := TX6) (N := 7) (As := [.int (4 : Int32)]) (rest := []) ⟨hx, hb, hml, hown, hts⟩ (ct_X6_refuse l dC dI ad ca _ u (4 : Int32)) (cwV 1 hts gX6_fence_X6_refuse rfl rfl rfl (by decide +kernel) ⟨Nat.le_of_ble_eq_true rfl, Nat.le_of_ble_eq_true rfl⟩) hP hD (hK.sub [0, 1, 2, 3, 4, 5] rfl) hNW hS hA [0, 1, 2, 3, 4, 5, 6, 7, 8, 9] [] rfl (wr := []) rfl (by decide) (by decide) (by decide) rfl rfl rfl hl.1 rfl (Nat.le_of_ble_eq_true rfl) dX6_fence_36 ⟨Nat.le_of_ble_eq_true rfl, Nat.le_of_ble_eq_true rfl⟩ (fun H locs hP hD hS => ?_)
        generalize hz_8 : mX6_refuse u (4 : Int32) = z_8 at hP hD ⊢
        have hP : va_P (dC, dI) vwCl (WT ad ca z_8.2) H := hP.sub [0, 1, 2, 3, 4, 5, 6, 7, 8, 9] rfl
        have hD : va_D (va_A (WT ad ca u) s.heap.size) (WT ad ca z_8.2) := hD.sub [0, 1, 2, 3, 4, 5, 6, 7, 8, 9] (by decide) rfl
        refine W.eq (g2 := F0 m 39 ls (.int z_8.1 :: [])) rfl ?_
        have he : mX6_fence_h u a1 a2 = (z_8.1, z_8.2) := by rw [mX6_fence_h, if_pos c_1, if_pos c_3, if_neg c_4, hz_8]
        exact rM_i hx hb hr hlocks hP hD hS (by rw [he]) (by rw [he]) dX6_fence_39
    · refine lv_aload_n hx hb dX6_fence_15 rfl (lv_at hl 0 rfl) ?_
      refine lv_iconst (v := (2 : Int32)) hx hb dX6_fence_16 (by decide) ?_
      refine hc_M (C := RX6) (ci := 2) (T := TX6) (N := 7) (As := [.int (2 : Int32)]) (rest := []) ⟨hx, hb, hml, hown, hts⟩ (ct_X6_refuse l dC dI ad ca _ u (2 : Int32)) (cwV 1 hts gX6_fence_X6_refuse rfl rfl rfl (by decide +kernel) ⟨Nat.le_of_ble_eq_true rfl, Nat.le_of_ble_eq_true rfl⟩) hP hD (hK.sub [0, 1, 2, 3, 4, 5] rfl) hNW hS hA [0, 1, 2, 3, 4, 5, 6, 7, 8, 9] [] rfl (wr := []) rfl (by decide) (by decide) (by decide) rfl rfl rfl hl.1 rfl (Nat.le_of_ble_eq_true rfl) dX6_fence_17 ⟨Nat.le_of_ble_eq_true rfl, Nat.le_of_ble_eq_true rfl⟩ (fun H locs hP hD hS => ?_)
      generalize hz_9 : mX6_refuse u (2 : Int32) = z_9 at hP hD ⊢
      have hP : va_P (dC, dI) vwCl (WT ad ca z_9.2) H := hP.sub [0, 1, 2, 3, 4, 5, 6, 7, 8, 9] rfl
      have hD : va_D (va_A (WT ad ca u) s.heap.size) (WT ad ca z_9.2) := hD.sub [0, 1, 2, 3, 4, 5, 6, 7, 8, 9] (by decide) rfl
      refine W.eq (g2 := F0 m 20 ls (.int z_9.1 :: [])) rfl ?_
      have he : mX6_fence_h u a1 a2 = (z_9.1, z_9.2) := by rw [mX6_fence_h, if_pos c_1, if_neg c_3, hz_9]
      exact rM_i hx hb hr hlocks hP hD hS (by rw [he]) (by rw [he]) dX6_fence_20
