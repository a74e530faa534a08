theorem gdm_in {k : Int32} (h : ¬ k < 0) (h4 : k < (4 : Int32)) : vp_in k 4 := by
  rw [vp_in_iff]
  rw [Int32.lt_iff_toInt_lt] at h h4
  have a : (0 : Int32).toInt = 0 := by decide
  have b : (4 : Int32).toInt = 4 := by decide
  omega
def mX6_place (u : TS) (a0 : Int32) (a1 : Int64) (a2 : Int32) : Int32 × TS := (if (mX6_isPoint a0) = 0 then ((mX6_refuse u (1 : Int32)).1, (mX6_refuse u (1 : Int32)).2) else (if (mX1_isNone a1) = 0 then (if (mX1_isNone (mX3_widened a2)) = 0 then (if (mX1_isInfinite a1) = 0 then (if (mX1_isInfinite (mX3_widened a2)) = 0 then ((mX6_putWalled u a0 a1 (mX3_widened a2)).1, (mX6_putWalled u a0 a1 (mX3_widened a2)).2) else ((mX6_refuse u (3 : Int32)).1, (mX6_refuse u (3 : Int32)).2)) else ((mX6_refuse u (3 : Int32)).1, (mX6_refuse u (3 : Int32)).2)) else ((mX6_refuse u (2 : Int32)).1, (mX6_refuse u (2 : Int32)).2)) else ((mX6_refuse u (2 : Int32)).1, (mX6_refuse u (2 : Int32)).2)))
set_option maxHeartbeats 4000000 in
set_option maxRecDepth 100000 in
theorem ct_X6_place (l : Launch) (dC : Nat → ClassId) (dI : Nat → Nat → Nat) (ad : Nat → Nat) (ca : Nat → ClassId) (sz : Nat) (u : TS) (a0 : Int32) (a1 : Int64) (a2 : Int32) (hn : vp_in u.2.2.2.2.2.1.1 16) : Met l yX6_place wsX6_place { frames := 4, cells := 0, slots := 0, locals := 95 } (pM (dC, dI) vwCl [((ca 4), .long), ((ca 5), .long), ((ca 6), .long), ((ca 7), .int), ((ca 8), .long), ((ca 9), .long)] (WT ad ca u) sz [.ref (ad 0), .int a0, .long a1, .int a2]) (qM (dC, dI) vwCl (WT ad ca u) sz (some (.int (mX6_place u a0 a1 a2).1)) (WT ad ca (mX6_place u a0 a1 a2).2)) 0 0 (va_A (WT ad ca u) sz) := by
  refine Met.ofW (cc := cX6_place) (maxL := 7) (ret := (some .int)) (by decide) rfl ?_
  intro p e s m args below meth c s₁ B hml hv
  obtain ⟨rfl, hsz, hP, hK, hD0, hNW⟩ := hv
  subst hsz
  have hx := B.exec
  have hb := B.bytes
  have hr := B.returns
  have hts := atoms_spec (ws := wsX6_place) B.pre
  have hown : s.vm.findClass RX6 = some m.cls := findClass_of_methodNamed B.named
  have hlocks := B.notSynchronized
  have hD : va_D (va_A (WT ad ca u) s.heap.size) (WT ad ca u) := hD0.self
  have hA : ∀ q : Nat, s.heap.size ≤ q → va_A (WT ad ca u) s.heap.size q := fun q h => Or.inr h
  have hS : va_S (va_A (WT ad ca u) s.heap.size) s.heap s.heap [] := va_S.rf
  have hl := lv_entry ([.ref (ad 0), .int a0, .long a1, .int a2]) (n := 7) (Nat.le_of_ble_eq_true rfl)
  rw [lg_entry_eq]
  generalize (lg_sl ([.ref (ad 0), .int a0, .long a1, .int a2]) ++ List.replicate (7 - (lg_sl ([.ref (ad 0), .int a0, .long a1, .int a2])).length) Slot.unset).toArray = ls at hl ⊢
  have hl : lv_has ls 7 [(0, .ref (ad 0)), (1, .int a0), (2, .long a1), (4, .int a2)] := hl
  refine lv_iload hx hb dX6_place_0 (lv_at hl 3 rfl) ?_
  refine hc_S (As := [.int a2]) (rest := []) ⟨hx, hb, hml, hown, hts⟩ (ct_X3_widened l a2) (va_cwS 1 hts gX6_place_X3_widened rfl rfl rfl (by decide +kernel) ⟨Nat.le_of_ble_eq_true rfl, Nat.le_of_ble_eq_true rfl⟩) rfl hl.1 rfl (Nat.le_of_ble_eq_true rfl) dX6_place_2 ⟨Nat.le_of_ble_eq_true rfl, Nat.le_of_ble_eq_true rfl⟩ ?_
  refine lv_lstore (lv' := [(5, .long (mX3_widened a2)), (0, .ref (ad 0)), (1, .int a0), (2, .long a1), (4, .int a2)]) hx hb dX6_place_5 hl (by decide) rfl (fun ls hl => ?_)
  refine lv_iload_n hx hb dX6_place_7 rfl (lv_at hl 2 rfl) ?_
  refine hc_S (As := [.int a0]) (rest := []) ⟨hx, hb, hml, hown, hts⟩ (ct_X6_isPoint l a0) (va_cwS 1 hts gX6_place_X6_isPoint rfl rfl rfl (by decide +kernel) ⟨Nat.le_of_ble_eq_true rfl, Nat.le_of_ble_eq_true rfl⟩) rfl hl.1 rfl (Nat.le_of_ble_eq_true rfl) dX6_place_8 ⟨Nat.le_of_ble_eq_true rfl, Nat.le_of_ble_eq_true rfl⟩ ?_
  refine lv_if_ne (tgt := 20) hx hb dX6_place_11 (by decide) (fun c_1 => ?_) (fun c_1 => ?_)
  · refine lv_lload_n hx hb dX6_place_20 rfl (lv_at hl 3 rfl) ?_
    refine hc_S (As := [.long a1]) (rest := []) ⟨hx, hb, hml, hown, hts⟩ (ct_X1_isNone l a1) (va_cwS 1 hts gX6_place_X1_isNone rfl rfl rfl (by decide +kernel) ⟨Nat.le_of_ble_eq_true rfl, Nat.le_of_ble_eq_true rfl⟩) rfl hl.1 rfl (Nat.le_of_ble_eq_true rfl) dX6_place_21 ⟨Nat.le_of_ble_eq_true rfl, Nat.le_of_ble_eq_true rfl⟩ ?_
    refine lv_if_ne (tgt := 35) hx hb dX6_place_24 (by decide) (fun c_2 => ?_) (fun c_2 => ?_)
    · refine lv_aload_n hx hb dX6_place_35 rfl (lv_at hl 1 rfl) ?_
      refine lv_iconst (v := (2 : Int32)) hx hb dX6_place_36 (by decide) ?_
      refine hc_M (C := RX6) (ci := 2) (T := TX6) (N := 7) (As := [.int (2 : Int32)]) (rest := []) ⟨hx, hb, hml, hown, hts⟩ (ct_X6_refuse l dC dI ad ca _ u (2 : Int32)) (cwV 1 hts gX6_place_X6_refuse rfl rfl rfl (by decide +kernel) ⟨Nat.le_of_ble_eq_true rfl, Nat.le_of_ble_eq_true rfl⟩) hP hD (hK.sub [0, 1, 2, 3, 4, 5] rfl) hNW hS hA [0, 1, 2, 3, 4, 5, 6, 7, 8, 9] [] rfl (wr := []) rfl (by decide) (by decide) (by decide) rfl rfl rfl hl.1 rfl (Nat.le_of_ble_eq_true rfl) dX6_place_37 ⟨Nat.le_of_ble_eq_true rfl, Nat.le_of_ble_eq_true rfl⟩ (fun H locs hP hD hS => ?_)
      generalize hz_3 : mX6_refuse u (2 : Int32) = z_3 at hP hD ⊢
      have hP : va_P (dC, dI) vwCl (WT ad ca z_3.2) H := hP.sub [0, 1, 2, 3, 4, 5, 6, 7, 8, 9] rfl
      have hD : va_D (va_A (WT ad ca u) s.heap.size) (WT ad ca z_3.2) := hD.sub [0, 1, 2, 3, 4, 5, 6, 7, 8, 9] (by decide) rfl
      refine W.eq (g2 := F0 m 40 ls (.int z_3.1 :: [])) rfl ?_
      have he : mX6_place u a0 a1 a2 = (z_3.1, z_3.2) := by rw [mX6_place, if_neg c_1, if_neg c_2, hz_3]
      exact rM_i hx hb hr hlocks hP hD hS (by rw [he]) (by rw [he]) dX6_place_40
    · refine lv_lload hx hb dX6_place_27 (lv_at hl 0 rfl) ?_
      refine hc_S (As := [.long (mX3_widened a2)]) (rest := []) ⟨hx, hb, hml, hown, hts⟩ (ct_X1_isNone l (mX3_widened a2)) (va_cwS 1 hts gX6_place_X1_isNone rfl rfl rfl (by decide +kernel) ⟨Nat.le_of_ble_eq_true rfl, Nat.le_of_ble_eq_true rfl⟩) rfl hl.1 rfl (Nat.le_of_ble_eq_true rfl) dX6_place_29 ⟨Nat.le_of_ble_eq_true rfl, Nat.le_of_ble_eq_true rfl⟩ ?_
      refine lv_if_eq (tgt := 41) hx hb dX6_place_32 (by decide) (fun c_4 => ?_) (fun c_4 => ?_)
      · refine lv_lload_n hx hb dX6_place_41 rfl (lv_at hl 3 rfl) ?_
        refine hc_S (As := [.long a1]) (rest := []) ⟨hx, hb, hml, hown, hts⟩ (ct_X1_isInfinite l a1) (va_cwS 1 hts gX6_place_X1_isInfinite rfl rfl rfl (by decide +kernel) ⟨Nat.le_of_ble_eq_true rfl, Nat.le_of_ble_eq_true rfl⟩) rfl hl.1 rfl (Nat.le_of_ble_eq_true rfl) dX6_place_42 ⟨Nat.le_of_ble_eq_true rfl, Nat.le_of_ble_eq_true rfl⟩ ?_
        refine lv_if_ne (tgt := 56) hx hb dX6_place_45 (by decide) (fun c_5 => ?_) (fun c_5 => ?_)
        · refine lv_aload_n hx hb dX6_place_56 rfl (lv_at hl 1 rfl) ?_
          refine lv_iconst (v := (3 : Int32)) hx hb dX6_place_57 (by decide) ?_
          refine hc_M (C := RX6) (ci := 2) (T := TX6) (N := 7) (As := [.int (3 : Int32)]) (rest := []) ⟨hx, hb, hml, hown, hts⟩ (ct_X6_refuse l dC dI ad ca _ u (3 : Int32)) (cwV 1 hts gX6_place_X6_refuse rfl rfl rfl (by decide +kernel) ⟨Nat.le_of_ble_eq_true rfl, Nat.le_of_ble_eq_true rfl⟩) hP hD (hK.sub [0, 1, 2, 3, 4, 5] rfl) hNW hS hA [0, 1, 2, 3, 4, 5, 6, 7, 8, 9] [] rfl (wr := []) rfl (by decide) (by decide) (by decide) rfl rfl rfl hl.1 rfl (Nat.le_of_ble_eq_true rfl) dX6_place_58 ⟨Nat.le_of_ble_eq_true rfl, Nat.le_of_ble_eq_true rfl⟩ (fun H locs hP hD hS => ?_)
          generalize hz_6 : mX6_refuse u (3 : Int32) = z_6 at hP hD ⊢
          have hP : va_P (dC, dI) vwCl (WT ad ca z_6.2) H := hP.sub [0, 1, 2, 3, 4, 5, 6, 7, 8, 9] rfl
          have hD : va_D (va_A (WT ad ca u) s.heap.size) (WT ad ca z_6.2) := hD.sub [0, 1, 2, 3, 4, 5, 6, 7, 8, 9] (by decide) rfl
          refine W.eq (g2 := F0 m 61 ls (.int z_6.1 :: [])) rfl ?_
          have he : mX6_place u a0 a1 a2 = (z_6.1, z_6.2) := by rw [mX6_place, if_neg c_1, if_pos c_2, if_pos c_4, if_neg c_5, hz_6]
          exact rM_i hx hb hr hlocks hP hD hS (by rw [he]) (by rw [he]) dX6_place_61
        · refine lv_lload hx hb dX6_place_48 (lv_at hl 0 rfl) ?_
          refine hc_S (As := [.long (mX3_widened a2)]) (rest := []) ⟨hx, hb, hml, hown, hts⟩ (ct_X1_isInfinite l (mX3_widened a2)) (va_cwS 1 hts gX6_place_X1_isInfinite rfl rfl rfl (by decide +kernel) ⟨Nat.le_of_ble_eq_true rfl, Nat.le_of_ble_eq_true rfl⟩) rfl hl.1 rfl (Nat.le_of_ble_eq_true rfl) dX6_place_50 ⟨Nat.le_of_ble_eq_true rfl, Nat.le_of_ble_eq_true rfl⟩ ?_
          refine lv_if_eq (tgt := 62) hx hb dX6_place_53 (by decide) (fun c_7 => ?_) (fun c_7 => ?_)
          · refine lv_aload_n hx hb dX6_place_62 rfl (lv_at hl 1 rfl) ?_
            refine lv_iload_n hx hb dX6_place_63 rfl (lv_at hl 2 rfl) ?_
            refine lv_lload_n hx hb dX6_place_64 rfl (lv_at hl 3 rfl) ?_
            refine lv_lload hx hb dX6_place_65 (lv_at hl 0 rfl) ?_
            refine hc_M (C := RX6) (ci := 2) (T := TX6) (N := 7) (As := [.int a0, .long a1, .long (mX3_widened a2)]) (rest := []) ⟨hx, hb, hml, hown, hts⟩ (ct_X6_putWalled l dC dI ad ca _ u a0 a1 (mX3_widened a2) (by first | with_reducible assumption | with_reducible exact pt_in (by with_reducible assumption) | with_reducible exact hn) (by first | with_reducible assumption | with_reducible exact pt_in (by with_reducible assumption) | with_reducible exact hn)) (cwV 3 hts gX6_place_X6_putWalled rfl rfl rfl (by decide +kernel) ⟨Nat.le_of_ble_eq_true rfl, Nat.le_of_ble_eq_true rfl⟩) hP hD (hK.sub [0, 1, 2, 3, 4, 5] rfl) hNW hS hA [0, 1, 2, 3, 4, 5, 6, 7, 8, 9] [] rfl (wr := []) rfl (by decide) (by decide) (by decide) rfl rfl rfl hl.1 rfl (Nat.le_of_ble_eq_true rfl) dX6_place_67 ⟨Nat.le_of_ble_eq_true rfl, Nat.le_of_ble_eq_true rfl⟩ (fun H locs hP hD hS => ?_)
            generalize hz_8 : mX6_putWalled u a0 a1 (mX3_widened a2) = z_8 at hP hD ⊢
            have hP : va_P (dC, dI) vwCl (WT ad ca z_8.2) H := hP.sub [0, 1, 2, 3, 4, 5, 6, 7, 8, 9] rfl
            have hD : va_D (va_A (WT ad ca u) s.heap.size) (WT ad ca z_8.2) := hD.sub [0, 1, 2, 3, 4, 5, 6, 7, 8, 9] (by decide) rfl
            refine W.eq (g2 := F0 m 70 ls (.int z_8.1 :: [])) rfl ?_
            have he : mX6_place u a0 a1 a2 = (z_8.1, z_8.2) := by rw [mX6_place, if_neg c_1, if_pos c_2, if_pos c_4, if_pos c_5, if_pos c_7, hz_8]
            exact rM_i hx hb hr hlocks hP hD hS (by rw [he]) (by rw [he]) dX6_place_70
          · refine lv_aload_n hx hb dX6_place_56 rfl (lv_at hl 1 rfl) ?_
            refine lv_iconst (v := (3 : Int32)) hx hb dX6_place_57 (by decide) ?_
            refine hc_M (C := RX6) (ci := 2) (T := TX6) (N := 7) (As := [.int (3 : Int32)]) (rest := []) ⟨hx, hb, hml, hown, hts⟩ (ct_X6_refuse l dC dI ad ca _ u (3 : Int32)) (cwV 1 hts gX6_place_X6_refuse rfl rfl rfl (by decide +kernel) ⟨Nat.le_of_ble_eq_true rfl, Nat.le_of_ble_eq_true rfl⟩) hP hD (hK.sub [0, 1, 2, 3, 4, 5] rfl) hNW hS hA [0, 1, 2, 3, 4, 5, 6, 7, 8, 9] [] rfl (wr := []) rfl (by decide) (by decide) (by decide) rfl rfl rfl hl.1 rfl (Nat.le_of_ble_eq_true rfl) dX6_place_58 ⟨Nat.le_of_ble_eq_true rfl, Nat.le_of_ble_eq_true rfl⟩ (fun H locs hP hD hS => ?_)
            generalize hz_9 : mX6_refuse u (3 : Int32) = z_9 at hP hD ⊢
            have hP : va_P (dC, dI) vwCl (WT ad ca z_9.2) H := hP.sub [0, 1, 2, 3, 4, 5, 6, 7, 8, 9] rfl
            have hD : va_D (va_A (WT ad ca u) s.heap.size) (WT ad ca z_9.2) := hD.sub [0, 1, 2, 3, 4, 5, 6, 7, 8, 9] (by decide) rfl
            refine W.eq (g2 := F0 m 61 ls (.int z_9.1 :: [])) rfl ?_
            have he : mX6_place u a0 a1 a2 = (z_9.1, z_9.2) := by rw [mX6_place, if_neg c_1, if_pos c_2, if_pos c_4, if_pos c_5, if_neg c_7, hz_9]
            exact rM_i hx hb hr hlocks hP hD hS (by rw [he]) (by rw [he]) dX6_place_61
      · refine lv_aload_n hx hb dX6_place_35 rfl (lv_at hl 1 rfl) ?_
        refine lv_iconst (v := (2 : Int32)) hx hb dX6_place_36 (by decide) ?_
        refine hc_M (C := RX6) (ci := 2) (T := TX6) (N := 7) (As := [.int (2 : Int32)]) (rest := []) ⟨hx, hb, hml, hown, hts⟩ (ct_X6_refuse l dC dI ad ca _ u (2 : Int32)) (cwV 1 hts gX6_place_X6_refuse rfl rfl rfl (by decide +kernel) ⟨Nat.le_of_ble_eq_true rfl, Nat.le_of_ble_eq_true rfl⟩) hP hD (hK.sub [0, 1, 2, 3, 4, 5] rfl) hNW hS hA [0, 1, 2, 3, 4, 5, 6, 7, 8, 9] [] rfl (wr := []) rfl (by decide) (by decide) (by decide) rfl rfl rfl hl.1 rfl (Nat.le_of_ble_eq_true rfl) dX6_place_37 ⟨Nat.le_of_ble_eq_true rfl, Nat.le_of_ble_eq_true rfl⟩ (fun H locs hP hD hS => ?_)
        generalize hz_10 : mX6_refuse u (2 : Int32) = z_10 at hP hD ⊢
        have hP : va_P (dC, dI) vwCl (WT ad ca z_10.2) H := hP.sub [0, 1, 2, 3, 4, 5, 6, 7, 8, 9] rfl
        have hD : va_D (va_A (WT ad ca u) s.heap.size) (WT ad ca z_10.2) := hD.sub [0, 1, 2, 3, 4, 5, 6, 7, 8, 9] (by decide) rfl
        refine W.eq (g2 := F0 m 40 ls (.int z_10.1 :: [])) rfl ?_
        have he : mX6_place u a0 a1 a2 = (z_10.1, z_10.2) := by rw [mX6_place, if_neg c_1, if_pos c_2, if_neg c_4, hz_10]
        exact rM_i hx hb hr hlocks hP hD hS (by rw [he]) (by rw [he]) dX6_place_40
  · refine lv_aload_n hx hb dX6_place_14 rfl (lv_at hl 1 rfl) ?_
    refine lv_iconst (v := (1 : Int32)) hx hb dX6_place_15 (by decide) ?_
    refine hc_M (C := RX6) (ci := 2) (T := TX6) (N := 7) (As := [.int (1 : Int32)]) (rest := []) ⟨hx, hb, hml, hown, hts⟩ (ct_X6_refuse l dC dI ad ca _ u (1 : Int32)) (cwV 1 hts gX6_place_X6_refuse rfl rfl rfl (by decide +kernel) ⟨Nat.le_of_ble_eq_true rfl, Nat.le_of_ble_eq_true rfl⟩) hP hD (hK.sub [0, 1, 2, 3, 4, 5] rfl) hNW hS hA [0, 1, 2, 3, 4, 5, 6, 7, 8, 9] [] rfl (wr := []) rfl (by decide) (by decide) (by decide) rfl rfl rfl hl.1 rfl (Nat.le_of_ble_eq_true rfl) dX6_place_16 ⟨Nat.le_of_ble_eq_true rfl, Nat.le_of_ble_eq_true rfl⟩ (fun H locs hP hD hS => ?_)
    generalize hz_11 : mX6_refuse u (1 : Int32) = z_11 at hP hD ⊢
    have hP : va_P (dC, dI) vwCl (WT ad ca z_11.2) H := hP.sub [0, 1, 2, 3, 4, 5, 6, 7, 8, 9] rfl
    have hD : va_D (va_A (WT ad ca u) s.heap.size) (WT ad ca z_11.2) := hD.sub [0, 1, 2, 3, 4, 5, 6, 7, 8, 9] (by decide) rfl
    refine W.eq (g2 := F0 m 19 ls (.int z_11.1 :: [])) rfl ?_
    have he : mX6_place u a0 a1 a2 = (z_11.1, z_11.2) := by rw [mX6_place, if_pos c_1, hz_11]
    exact rM_i hx hb hr hlocks hP hD hS (by rw [he]) (by rw [he]) dX6_place_19

def mX6_walls (u : TS) (a0 : Int64) (a1 : Int64) : Int32 × TS := ((mX6_fence_w u a0 a1).1, (mX6_fence_w u a0 a1).2)
set_option maxHeartbeats 4000000 in
set_option maxRecDepth 100000 in
theorem ct_X6_walls (l : Launch) (dC : Nat → ClassId) (dI : Nat → Nat → Nat) (ad : Nat → Nat) (ca : Nat → ClassId) (sz : Nat) (u : TS) (a0 : Int64) (a1 : Int64) : Met l yX6_walls wsX6_walls { frames := 5, cells := 0, slots := 0, locals := 119 } (pM (dC, dI) vwCl [((ca 4), .long), ((ca 5), .long), ((ca 6), .long), ((ca 7), .int), ((ca 8), .long), ((ca 9), .long)] (WT ad ca u) sz [.ref (ad 0), .long a0, .long a1]) (qM (dC, dI) vwCl (WT ad ca u) sz (some (.int (mX6_walls u a0 a1).1)) (WT ad ca (mX6_walls u a0 a1).2)) 0 0 (va_A (WT ad ca u) sz) := by
  refine Met.ofW (cc := cX6_walls) (maxL := 5) (ret := (some .int)) (by decide) rfl ?_
  intro p e s m args below meth c s₁ B hml hv
  obtain ⟨rfl, hsz, hP, hK, hD0, hNW⟩ := hv
  subst hsz
  have hx := B.exec
  have hb := B.bytes
  have hr := B.returns
  have hts := atoms_spec (ws := wsX6_walls) B.pre
  have hown : s.vm.findClass RX6 = some m.cls := findClass_of_methodNamed B.named
  have hlocks := B.notSynchronized
  have hin6 : ∀ w ∈ wsX60, w ∈ wsX6_walls := by decide +kernel
  have hD : va_D (va_A (WT ad ca u) s.heap.size) (WT ad ca u) := hD0.self
  have hA : ∀ q : Nat, s.heap.size ≤ q → va_A (WT ad ca u) s.heap.size q := fun q h => Or.inr h
  have hS : va_S (va_A (WT ad ca u) s.heap.size) s.heap s.heap [] := va_S.rf
  have hl := lv_entry ([.ref (ad 0), .long a0, .long a1]) (n := 5) (Nat.le_of_ble_eq_true rfl)
  rw [lg_entry_eq]
  generalize (lg_sl ([.ref (ad 0), .long a0, .long a1]) ++ List.replicate (5 - (lg_sl ([.ref (ad 0), .long a0, .long a1])).length) Slot.unset).toArray = ls at hl ⊢
  have hl : lv_has ls 5 [(0, .ref (ad 0)), (1, .long a0), (3, .long a1)] := hl
  refine lv_aload_n hx hb dX6_walls_0 rfl (lv_at hl 0 rfl) ?_
  refine lv_aload_n hx hb dX6_walls_1 rfl (lv_at hl 0 rfl) ?_
  refine va_get (D := (dC, dI)) (ci := 2) (v := .ref (ad 1)) (C := RX6) (T := TX6) (N := 7) hx hb hts hin6 hown hK hP 0 rfl rfl 0 (by decide) (hts (.fieldLink RX6 12 "SnapTable" "widths" "LSnapTable$Axis;") (by decide +kernel)) (fun _ h9 => h9) rfl dX6_walls_2 ?_
  refine lv_lload_n hx hb dX6_walls_5 rfl (lv_at hl 1 rfl) ?_
  refine lv_lload_n hx hb dX6_walls_6 rfl (lv_at hl 2 rfl) ?_
  refine hc_M (C := RX6) (ci := 2) (T := TX6) (N := 7) (As := [.ref (ad 1), .long a0, .long a1]) (rest := []) ⟨hx, hb, hml, hown, hts⟩ (ct_X6_fence_w l dC dI ad ca _ u a0 a1) (cwV 3 hts gX6_walls_X6_fence rfl rfl rfl (by decide +kernel) ⟨Nat.le_of_ble_eq_true rfl, Nat.le_of_ble_eq_true rfl⟩) hP hD (hK.sub [0, 1, 2, 3, 4, 5] rfl) hNW hS hA [0, 1, 2, 3, 4, 5, 6, 7, 8, 9] [] rfl (wr := []) rfl (by decide) (by decide) (by decide) rfl rfl rfl hl.1 rfl (Nat.le_of_ble_eq_true rfl) dX6_walls_7 ⟨Nat.le_of_ble_eq_true rfl, Nat.le_of_ble_eq_true rfl⟩ (fun H locs hP hD hS => ?_)
  generalize hz_1 : mX6_fence_w u a0 a1 = z_1 at hP hD ⊢
  have hP : va_P (dC, dI) vwCl (WT ad ca z_1.2) H := hP.sub [0, 1, 2, 3, 4, 5, 6, 7, 8, 9] rfl
  have hD : va_D (va_A (WT ad ca u) s.heap.size) (WT ad ca z_1.2) := hD.sub [0, 1, 2, 3, 4, 5, 6, 7, 8, 9] (by decide) rfl
  refine W.eq (g2 := F0 m 10 ls (.int z_1.1 :: [])) rfl ?_
  have he : mX6_walls u a0 a1 = (z_1.1, z_1.2) := by rw [mX6_walls, hz_1]
  exact rM_i hx hb hr hlocks hP hD hS (by rw [he]) (by rw [he]) dX6_walls_10

def mX6_rails (u : TS) (a0 : Int32) (a1 : Int32) : Int32 × TS := ((mX6_fence_h u (mX3_widened a0) (mX3_widened a1)).1, (mX6_fence_h u (mX3_widened a0) (mX3_widened a1)).2)
set_option maxHeartbeats 4000000 in
set_option maxRecDepth 100000 in
theorem ct_X6_rails (l : Launch) (dC : Nat → ClassId) (dI : Nat → Nat → Nat) (ad : Nat → Nat) (ca : Nat → ClassId) (sz : Nat) (u : TS) (a0 : Int32) (a1 : Int32) : Met l yX6_rails wsX6_rails { frames := 5, cells := 0, slots := 0, locals := 119 } (pM (dC, dI) vwCl [((ca 4), .long), ((ca 5), .long), ((ca 6), .long), ((ca 7), .int), ((ca 8), .long), ((ca 9), .long)] (WT ad ca u) sz [.ref (ad 0), .int a0, .int a1]) (qM (dC, dI) vwCl (WT ad ca u) sz (some (.int (mX6_rails u a0 a1).1)) (WT ad ca (mX6_rails u a0 a1).2)) 0 0 (va_A (WT ad ca u) sz) := by
  refine Met.ofW (cc := cX6_rails) (maxL := 3) (ret := (some .int)) (by decide) rfl ?_
  intro p e s m args below meth c s₁ B hml hv
  obtain ⟨rfl, hsz, hP, hK, hD0, hNW⟩ := hv
  subst hsz
  have hx := B.exec
  have hb := B.bytes
  have hr := B.returns
  have hts := atoms_spec (ws := wsX6_rails) B.pre
  have hown : s.vm.findClass RX6 = some m.cls := findClass_of_methodNamed B.named
  have hlocks := B.notSynchronized
  have hin6 : ∀ w ∈ wsX60, w ∈ wsX6_rails := by decide +kernel
  have hD : va_D (va_A (WT ad ca u) s.heap.size) (WT ad ca u) := hD0.self
  have hA : ∀ q : Nat, s.heap.size ≤ q → va_A (WT ad ca u) s.heap.size q := fun q h => Or.inr h
  have hS : va_S (va_A (WT ad ca u) s.heap.size) s.heap s.heap [] := va_S.rf
  have hl := lv_entry ([.ref (ad 0), .int a0, .int a1]) (n := 3) (Nat.le_of_ble_eq_true rfl)
  rw [lg_entry_eq]
  generalize (lg_sl ([.ref (ad 0), .int a0, .int a1]) ++ List.replicate (3 - (lg_sl ([.ref (ad 0), .int a0, .int a1])).length) Slot.unset).toArray = ls at hl ⊢
  have hl : lv_has ls 3 [(0, .ref (ad 0)), (1, .int a0), (2, .int a1)] := hl
  refine lv_aload_n hx hb dX6_rails_0 rfl (lv_at hl 0 rfl) ?_
  refine lv_aload_n hx hb dX6_rails_1 rfl (lv_at hl 0 rfl) ?_
  refine va_get (D := (dC, dI)) (ci := 2) (v := .ref (ad 2)) (C := RX6) (T := TX6) (N := 7) hx hb hts hin6 hown hK hP 0 rfl rfl 1 (by decide) (hts (.fieldLink RX6 18 "SnapTable" "heights" "LSnapTable$Axis;") (by decide +kernel)) (fun _ h9 => h9) rfl dX6_rails_2 ?_
  refine lv_iload_n hx hb dX6_rails_5 rfl (lv_at hl 1 rfl) ?_
  refine hc_S (As := [.int a0]) (rest := [.ref (ad 2), .ref (ad 0)]) ⟨hx, hb, hml, hown, hts⟩ (ct_X3_widened l a0) (va_cwS 1 hts gX6_rails_X3_widened rfl rfl rfl (by decide +kernel) ⟨Nat.le_of_ble_eq_true rfl, Nat.le_of_ble_eq_true rfl⟩) rfl hl.1 rfl (Nat.le_of_ble_eq_true rfl) dX6_rails_6 ⟨Nat.le_of_ble_eq_true rfl, Nat.le_of_ble_eq_true rfl⟩ ?_
  refine lv_iload_n hx hb dX6_rails_9 rfl (lv_at hl 2 rfl) ?_
  refine hc_S (As := [.int a1]) (rest := [.long (mX3_widened a0), .ref (ad 2), .ref (ad 0)]) ⟨hx, hb, hml, hown, hts⟩ (ct_X3_widened l a1) (va_cwS 1 hts gX6_rails_X3_widened rfl rfl rfl (by decide +kernel) ⟨Nat.le_of_ble_eq_true rfl, Nat.le_of_ble_eq_true rfl⟩) rfl hl.1 rfl (Nat.le_of_ble_eq_true rfl) dX6_rails_10 ⟨Nat.le_of_ble_eq_true rfl, Nat.le_of_ble_eq_true rfl⟩ ?_
  refine hc_M (C := RX6) (ci := 2) (T := TX6) (N := 7) (As := [.ref (ad 2), .long (mX3_widened a0), .long (mX3_widened a1)]) (rest := []) ⟨hx, hb, hml, hown, hts⟩ (ct_X6_fence_h l dC dI ad ca _ u (mX3_widened a0) (mX3_widened a1)) (cwV 3 hts gX6_rails_X6_fence rfl rfl rfl (by decide +kernel) ⟨Nat.le_of_ble_eq_true rfl, Nat.le_of_ble_eq_true rfl⟩) hP hD (hK.sub [0, 1, 2, 3, 4, 5] rfl) hNW hS hA [0, 1, 2, 3, 4, 5, 6, 7, 8, 9] [] rfl (wr := []) rfl (by decide) (by decide) (by decide) rfl rfl rfl hl.1 rfl (Nat.le_of_ble_eq_true rfl) dX6_rails_13 ⟨Nat.le_of_ble_eq_true rfl, Nat.le_of_ble_eq_true rfl⟩ (fun H locs hP hD hS => ?_)
  generalize hz_1 : mX6_fence_h u (mX3_widened a0) (mX3_widened a1) = z_1 at hP hD ⊢
  have hP : va_P (dC, dI) vwCl (WT ad ca z_1.2) H := hP.sub [0, 1, 2, 3, 4, 5, 6, 7, 8, 9] rfl
  have hD : va_D (va_A (WT ad ca u) s.heap.size) (WT ad ca z_1.2) := hD.sub [0, 1, 2, 3, 4, 5, 6, 7, 8, 9] (by decide) rfl
  refine W.eq (g2 := F0 m 16 ls (.int z_1.1 :: [])) rfl ?_
  have he : mX6_rails u a0 a1 = (z_1.1, z_1.2) := by rw [mX6_rails, hz_1]
  exact rM_i hx hb hr hlocks hP hD hS (by rw [he]) (by rw [he]) dX6_rails_16

def mX6_steps (u : TS) (a0 : Int64) (a1 : Int32) : Int32 × TS := (if (mX1_isNone a0) = 0 then (if (mX1_isNone (mX3_widened a1)) = 0 then (if (mX1_isInfinite a0) = 0 then (if (mX1_isInfinite (mX3_widened a1)) = 0 then (if (mX1_isAboveZero a0) = 0 then ((mX6_refuse u (4 : Int32)).1, (mX6_refuse u (4 : Int32)).2) else (if (mX1_isAboveZero (mX3_widened a1)) = 0 then ((mX6_refuse u (4 : Int32)).1, (mX6_refuse u (4 : Int32)).2) else ((mX6_finish (u.1, u.2.1, u.2.2.1, (u.2.2.2.1.1, u.2.2.2.1.2.1, a0, u.2.2.2.1.2.2.2), (u.2.2.2.2.1.1, u.2.2.2.2.1.2.1, (mX3_widened a1), u.2.2.2.2.1.2.2.2), u.2.2.2.2.2.1, u.2.2.2.2.2.2)).1, (mX6_finish (u.1, u.2.1, u.2.2.1, (u.2.2.2.1.1, u.2.2.2.1.2.1, a0, u.2.2.2.1.2.2.2), (u.2.2.2.2.1.1, u.2.2.2.2.1.2.1, (mX3_widened a1), u.2.2.2.2.1.2.2.2), u.2.2.2.2.2.1, u.2.2.2.2.2.2)).2))) else ((mX6_refuse u (3 : Int32)).1, (mX6_refuse u (3 : Int32)).2)) else ((mX6_refuse u (3 : Int32)).1, (mX6_refuse u (3 : Int32)).2)) else ((mX6_refuse u (2 : Int32)).1, (mX6_refuse u (2 : Int32)).2)) else ((mX6_refuse u (2 : Int32)).1, (mX6_refuse u (2 : Int32)).2))
set_option maxHeartbeats 4000000 in
set_option maxRecDepth 100000 in
theorem ct_X6_steps (l : Launch) (dC : Nat → ClassId) (dI : Nat → Nat → Nat) (ad : Nat → Nat) (ca : Nat → ClassId) (sz : Nat) (u : TS) (a0 : Int64) (a1 : Int32) : Met l yX6_steps wsX6_steps { frames := 4, cells := 0, slots := 0, locals := 93 } (pM (dC, dI) vwCl [((ca 4), .long), ((ca 5), .long), ((ca 6), .long), ((ca 7), .int), ((ca 8), .long), ((ca 9), .long)] (WT ad ca u) sz [.ref (ad 0), .long a0, .int a1]) (qM (dC, dI) vwCl (WT ad ca u) sz (some (.int (mX6_steps u a0 a1).1)) (WT ad ca (mX6_steps u a0 a1).2)) 0 0 (va_A (WT ad ca u) sz) := by
  refine Met.ofW (cc := cX6_steps) (maxL := 6) (ret := (some .int)) (by decide) rfl ?_
  intro p e s m args below meth c s₁ B hml hv
  obtain ⟨rfl, hsz, hP, hK, hD0, hNW⟩ := hv
  subst hsz
  have hx := B.exec
  have hb := B.bytes
  have hr := B.returns
  have hts := atoms_spec (ws := wsX6_steps) B.pre
  have hown : s.vm.findClass RX6 = some m.cls := findClass_of_methodNamed B.named
  have hlocks := B.notSynchronized
  have hin0 : ∀ w ∈ wsX00, w ∈ wsX6_steps := by decide +kernel
  have hin6 : ∀ w ∈ wsX60, w ∈ wsX6_steps := by decide +kernel
  have hD : va_D (va_A (WT ad ca u) s.heap.size) (WT ad ca u) := hD0.self
  have hA : ∀ q : Nat, s.heap.size ≤ q → va_A (WT ad ca u) s.heap.size q := fun q h => Or.inr h
  have hS : va_S (va_A (WT ad ca u) s.heap.size) s.heap s.heap [] := va_S.rf
  have hl := lv_entry ([.ref (ad 0), .long a0, .int a1]) (n := 6) (Nat.le_of_ble_eq_true rfl)
  rw [lg_entry_eq]
  generalize (lg_sl ([.ref (ad 0), .long a0, .int a1]) ++ List.replicate (6 - (lg_sl ([.ref (ad 0), .long a0, .int a1])).length) Slot.unset).toArray = ls at hl ⊢
  have hl : lv_has ls 6 [(0, .ref (ad 0)), (1, .long a0), (3, .int a1)] := hl
  refine lv_iload_n hx hb dX6_steps_0 rfl (lv_at hl 2 rfl) ?_
  refine hc_S (As := [.int a1]) (rest := []) ⟨hx, hb, hml, hown, hts⟩ (ct_X3_widened l a1) (va_cwS 1 hts gX6_steps_X3_widened rfl rfl rfl (by decide +kernel) ⟨Nat.le_of_ble_eq_true rfl, Nat.le_of_ble_eq_true rfl⟩) rfl hl.1 rfl (Nat.le_of_ble_eq_true rfl) dX6_steps_1 ⟨Nat.le_of_ble_eq_true rfl, Nat.le_of_ble_eq_true rfl⟩ ?_
  refine lv_lstore (lv' := [(4, .long (mX3_widened a1)), (0, .ref (ad 0)), (1, .long a0), (3, .int a1)]) hx hb dX6_steps_4 hl (by decide) rfl (fun ls hl => ?_)
  refine lv_lload_n hx hb dX6_steps_6 rfl (lv_at hl 2 rfl) ?_
  refine hc_S (As := [.long a0]) (rest := []) ⟨hx, hb, hml, hown, hts⟩ (ct_X1_isNone l a0) (va_cwS 1 hts gX6_steps_X1_isNone rfl rfl rfl (by decide +kernel) ⟨Nat.le_of_ble_eq_true rfl, Nat.le_of_ble_eq_true rfl⟩) rfl hl.1 rfl (Nat.le_of_ble_eq_true rfl) dX6_steps_7 ⟨Nat.le_of_ble_eq_true rfl, Nat.le_of_ble_eq_true rfl⟩ ?_
  refine lv_if_ne (tgt := 21) hx hb dX6_steps_10 (by decide) (fun c_1 => ?_) (fun c_1 => ?_)
  · refine lv_aload_n hx hb dX6_steps_21 rfl (lv_at hl 1 rfl) ?_
    refine lv_iconst (v := (2 : Int32)) hx hb dX6_steps_22 (by decide) ?_
    refine hc_M (C := RX6) (ci := 2) (T := TX6) (N := 7) (As := [.int (2 : Int32)]) (rest := []) ⟨hx, hb, hml, hown, hts⟩ (ct_X6_refuse l dC dI ad ca _ u (2 : Int32)) (cwV 1 hts gX6_steps_X6_refuse rfl rfl rfl (by decide +kernel) ⟨Nat.le_of_ble_eq_true rfl, Nat.le_of_ble_eq_true rfl⟩) hP hD (hK.sub [0, 1, 2, 3, 4, 5] rfl) hNW hS hA [0, 1, 2, 3, 4, 5, 6, 7, 8, 9] [] rfl (wr := []) rfl (by decide) (by decide) (by decide) rfl rfl rfl hl.1 rfl (Nat.le_of_ble_eq_true rfl) dX6_steps_23 ⟨Nat.le_of_ble_eq_true rfl, Nat.le_of_ble_eq_true rfl⟩ (fun H locs hP hD hS => ?_)
    generalize hz_2 : mX6_refuse u (2 : Int32) = z_2 at hP hD ⊢
    have hP : va_P (dC, dI) vwCl (WT ad ca z_2.2) H := hP.sub [0, 1, 2, 3, 4, 5, 6, 7, 8, 9] rfl
    have hD : va_D (va_A (WT ad ca u) s.heap.size) (WT ad ca z_2.2) := hD.sub [0, 1, 2, 3, 4, 5, 6, 7, 8, 9] (by decide) rfl
    refine W.eq (g2 := F0 m 26 ls (.int z_2.1 :: [])) rfl ?_
    have he : mX6_steps u a0 a1 = (z_2.1, z_2.2) := by rw [mX6_steps, if_neg c_1, hz_2]
    exact rM_i hx hb hr hlocks hP hD hS (by rw [he]) (by rw [he]) dX6_steps_26
  · refine lv_lload hx hb dX6_steps_13 (lv_at hl 0 rfl) ?_
    refine hc_S (As := [.long (mX3_widened a1)]) (rest := []) ⟨hx, hb, hml, hown, hts⟩ (ct_X1_isNone l (mX3_widened a1)) (va_cwS 1 hts gX6_steps_X1_isNone rfl rfl rfl (by decide +kernel) ⟨Nat.le_of_ble_eq_true rfl, Nat.le_of_ble_eq_true rfl⟩) rfl hl.1 rfl (Nat.le_of_ble_eq_true rfl) dX6_steps_15 ⟨Nat.le_of_ble_eq_true rfl, Nat.le_of_ble_eq_true rfl⟩ ?_
    refine lv_if_eq (tgt := 27) hx hb dX6_steps_18 (by decide) (fun c_3 => ?_) (fun c_3 => ?_)
    · refine lv_lload_n hx hb dX6_steps_27 rfl (lv_at hl 2 rfl) ?_
      refine hc_S (As := [.long a0]) (rest := []) ⟨hx, hb, hml, hown, hts⟩ (ct_X1_isInfinite l a0) (va_cwS 1 hts gX6_steps_X1_isInfinite rfl rfl rfl (by decide +kernel) ⟨Nat.le_of_ble_eq_true rfl, Nat.le_of_ble_eq_true rfl⟩) rfl hl.1 rfl (Nat.le_of_ble_eq_true rfl) dX6_steps_28 ⟨Nat.le_of_ble_eq_true rfl, Nat.le_of_ble_eq_true rfl⟩ ?_
      refine lv_if_ne (tgt := 42) hx hb dX6_steps_31 (by decide) (fun c_4 => ?_) (fun c_4 => ?_)
      · refine lv_aload_n hx hb dX6_steps_42 rfl (lv_at hl 1 rfl) ?_
        refine lv_iconst (v := (3 : Int32)) hx hb dX6_steps_43 (by decide) ?_
        refine hc_M (C := RX6) (ci := 2) (T := TX6) (N := 7) (As := [.int (3 : Int32)]) (rest := []) ⟨hx, hb, hml, hown, hts⟩ (ct_X6_refuse l dC dI ad ca _ u (3 : Int32)) (cwV 1 hts gX6_steps_X6_refuse rfl rfl rfl (by decide +kernel) ⟨Nat.le_of_ble_eq_true rfl, Nat.le_of_ble_eq_true rfl⟩) hP hD (hK.sub [0, 1, 2, 3, 4, 5] rfl) hNW hS hA [0, 1, 2, 3, 4, 5, 6, 7, 8, 9] [] rfl (wr := []) rfl (by decide) (by decide) (by decide) rfl rfl rfl hl.1 rfl (Nat.le_of_ble_eq_true rfl) dX6_steps_44 ⟨Nat.le_of_ble_eq_true rfl, Nat.le_of_ble_eq_true rfl⟩ (fun H locs hP hD hS => ?_)
        generalize hz_5 : mX6_refuse u (3 : Int32) = z_5 at hP hD ⊢
        have hP : va_P (dC, dI) vwCl (WT ad ca z_5.2) H := hP.sub [0, 1, 2, 3, 4, 5, 6, 7, 8, 9] rfl
        have hD : va_D (va_A (WT ad ca u) s.heap.size) (WT ad ca z_5.2) := hD.sub [0, 1, 2, 3, 4, 5, 6, 7, 8, 9] (by decide) rfl
        refine W.eq (g2 := F0 m 47 ls (.int z_5.1 :: [])) rfl ?_
        have he : mX6_steps u a0 a1 = (z_5.1, z_5.2) := by rw [mX6_steps, if_pos c_1, if_pos c_3, if_neg c_4, hz_5]
        exact rM_i hx hb hr hlocks hP hD hS (by rw [he]) (by rw [he]) dX6_steps_47
      · refine lv_lload hx hb dX6_steps_34 (lv_at hl 0 rfl) ?_
        refine hc_S (As := [.long (mX3_widened a1)]) (rest := []) ⟨hx, hb, hml, hown, hts⟩ (ct_X1_isInfinite l (mX3_widened a1)) (va_cwS 1 hts gX6_steps_X1_isInfinite rfl rfl rfl (by decide +kernel) ⟨Nat.le_of_ble_eq_true rfl, Nat.le_of_ble_eq_true rfl⟩) rfl hl.1 rfl (Nat.le_of_ble_eq_true rfl) dX6_steps_36 ⟨Nat.le_of_ble_eq_true rfl, Nat.le_of_ble_eq_true rfl⟩ ?_
        refine lv_if_eq (tgt := 48) hx hb dX6_steps_39 (by decide) (fun c_6 => ?_) (fun c_6 => ?_)
        · refine lv_lload_n hx hb dX6_steps_48 rfl (lv_at hl 2 rfl) ?_
          refine hc_S (As := [.long a0]) (rest := []) ⟨hx, hb, hml, hown, hts⟩ (ct_X1_isAboveZero l a0) (va_cwS 1 hts gX6_steps_X1_isAboveZero rfl rfl rfl (by decide +kernel) ⟨Nat.le_of_ble_eq_true rfl, Nat.le_of_ble_eq_true rfl⟩) rfl hl.1 rfl (Nat.le_of_ble_eq_true rfl) dX6_steps_49 ⟨Nat.le_of_ble_eq_true rfl, Nat.le_of_ble_eq_true rfl⟩ ?_
          refine lv_if_eq (tgt := 63) hx hb dX6_steps_52 (by decide) (fun c_7 => ?_) (fun c_7 => ?_)
          · refine lv_aload_n hx hb dX6_steps_63 rfl (lv_at hl 1 rfl) ?_
            refine lv_iconst (v := (4 : Int32)) hx hb dX6_steps_64 (by decide) ?_
            refine hc_M (C := RX6) (ci := 2) (T := TX6) (N := 7) (As := [.int (4 : Int32)]) (rest := []) ⟨hx, hb, hml, hown, hts⟩ (ct_X6_refuse l dC dI ad ca _ u (4 : Int32)) (cwV 1 hts gX6_steps_X6_refuse rfl rfl rfl (by decide +kernel) ⟨Nat.le_of_ble_eq_true rfl, Nat.le_of_ble_eq_true rfl⟩) hP hD (hK.sub [0, 1, 2, 3, 4, 5] rfl) hNW hS hA [0, 1, 2, 3, 4, 5, 6, 7, 8, 9] [] rfl (wr := []) rfl (by decide) (by decide) (by decide) rfl rfl rfl hl.1 rfl (Nat.le_of_ble_eq_true rfl) dX6_steps_65 ⟨Nat.le_of_ble_eq_true rfl, Nat.le_of_ble_eq_true rfl⟩ (fun H locs hP hD hS => ?_)
            generalize hz_8 : mX6_refuse u (4 : Int32) = z_8 at hP hD ⊢
            have hP : va_P (dC, dI) vwCl (WT ad ca z_8.2) H := hP.sub [0, 1, 2, 3, 4, 5, 6, 7, 8, 9] rfl
            have hD : va_D (va_A (WT ad ca u) s.heap.size) (WT ad ca z_8.2) := hD.sub [0, 1, 2, 3, 4, 5, 6, 7, 8, 9] (by decide) rfl
            refine W.eq (g2 := F0 m 68 ls (.int z_8.1 :: [])) rfl ?_
            have he : mX6_steps u a0 a1 = (z_8.1, z_8.2) := by rw [mX6_steps, if_pos c_1, if_pos c_3, if_pos c_4, if_pos c_6, if_pos c_7, hz_8]
            exact rM_i hx hb hr hlocks hP hD hS (by rw [he]) (by rw [he]) dX6_steps_68
          · refine lv_lload hx hb dX6_steps_55 (lv_at hl 0 rfl) ?_
            refine hc_S (As := [.long (mX3_widened a1)]) (rest := []) ⟨hx, hb, hml, hown, hts⟩ (ct_X1_isAboveZero l (mX3_widened a1)) (va_cwS 1 hts gX6_steps_X1_isAboveZero rfl rfl rfl (by decide +kernel) ⟨Nat.le_of_ble_eq_true rfl, Nat.le_of_ble_eq_true rfl⟩) rfl hl.1 rfl (Nat.le_of_ble_eq_true rfl) dX6_steps_57 ⟨Nat.le_of_ble_eq_true rfl, Nat.le_of_ble_eq_true rfl⟩ ?_
            refine lv_if_ne (tgt := 69) hx hb dX6_steps_60 (by decide) (fun c_9 => ?_) (fun c_9 => ?_)
            · refine lv_aload_n hx hb dX6_steps_69 rfl (lv_at hl 1 rfl) ?_
              refine va_get (D := (dC, dI)) (ci := 2) (v := .ref (ad 1)) (C := RX6) (T := TX6) (N := 7) hx hb hts hin6 hown hK hP 0 rfl rfl 0 (by decide) (hts (.fieldLink RX6 12 "SnapTable" "widths" "LSnapTable$Axis;") (by decide +kernel)) (fun _ h9 => h9) rfl dX6_steps_70 ?_
              refine lv_lload_n hx hb dX6_steps_73 rfl (lv_at hl 2 rfl) ?_
              refine va_putN (D := (dC, dI)) (ci := 0) (v := .long a0) (ty := .long) (C := RX0) (T := TX0) (N := 5) hx hb hts hin0 tyX0 tyX0_ok nmX0 hown hK hP hD hS 1 rfl rfl 4 (by decide) (va_Nw.use rfl hNW.2.1) (fun _ h9 => h9) rfl (by decide +kernel) rfl rfl (Nat.le_of_ble_eq_true rfl) dX6_steps_74 (fun H locs hP hD hS => ?_)
              have hP : va_P (dC, dI) vwCl (WT ad ca (u.1, u.2.1, u.2.2.1, (u.2.2.2.1.1, u.2.2.2.1.2.1, a0, u.2.2.2.1.2.2.2), u.2.2.2.2.1, u.2.2.2.2.2.1, u.2.2.2.2.2.2)) H := hP
              have hD : va_D (va_A (WT ad ca u) s.heap.size) (WT ad ca (u.1, u.2.1, u.2.2.1, (u.2.2.2.1.1, u.2.2.2.1.2.1, a0, u.2.2.2.1.2.2.2), u.2.2.2.2.1, u.2.2.2.2.2.1, u.2.2.2.2.2.2)) := hD
              refine lv_aload_n hx hb dX6_steps_77 rfl (lv_at hl 1 rfl) ?_
              refine va_get (D := (dC, dI)) (ci := 2) (v := .ref (ad 2)) (C := RX6) (T := TX6) (N := 7) hx hb hts hin6 hown hK hP 0 rfl rfl 1 (by decide) (hts (.fieldLink RX6 18 "SnapTable" "heights" "LSnapTable$Axis;") (by decide +kernel)) (fun _ h9 => h9) rfl dX6_steps_78 ?_
              refine lv_lload hx hb dX6_steps_81 (lv_at hl 0 rfl) ?_
              refine va_putN (D := (dC, dI)) (ci := 0) (v := .long (mX3_widened a1)) (ty := .long) (C := RX0) (T := TX0) (N := 5) hx hb hts hin0 tyX0 tyX0_ok nmX0 hown hK hP hD hS 2 rfl rfl 4 (by decide) (va_Nw.use rfl hNW.2.1) (fun _ h9 => h9) rfl (by decide +kernel) rfl rfl (Nat.le_of_ble_eq_true rfl) dX6_steps_83 (fun H locs hP hD hS => ?_)
              have hP : va_P (dC, dI) vwCl (WT ad ca (u.1, u.2.1, u.2.2.1, (u.2.2.2.1.1, u.2.2.2.1.2.1, a0, u.2.2.2.1.2.2.2), (u.2.2.2.2.1.1, u.2.2.2.2.1.2.1, (mX3_widened a1), u.2.2.2.2.1.2.2.2), u.2.2.2.2.2.1, u.2.2.2.2.2.2)) H := hP
              have hD : va_D (va_A (WT ad ca u) s.heap.size) (WT ad ca (u.1, u.2.1, u.2.2.1, (u.2.2.2.1.1, u.2.2.2.1.2.1, a0, u.2.2.2.1.2.2.2), (u.2.2.2.2.1.1, u.2.2.2.2.1.2.1, (mX3_widened a1), u.2.2.2.2.1.2.2.2), u.2.2.2.2.2.1, u.2.2.2.2.2.2)) := hD
              refine lv_aload_n hx hb dX6_steps_86 rfl (lv_at hl 1 rfl) ?_
              refine hc_M (C := RX6) (ci := 2) (T := TX6) (N := 7) (As := []) (rest := []) ⟨hx, hb, hml, hown, hts⟩ (ct_X6_finish l dC dI ad ca _ (u.1, u.2.1, u.2.2.1, (u.2.2.2.1.1, u.2.2.2.1.2.1, a0, u.2.2.2.1.2.2.2), (u.2.2.2.2.1.1, u.2.2.2.2.1.2.1, (mX3_widened a1), u.2.2.2.2.1.2.2.2), u.2.2.2.2.2.1, u.2.2.2.2.2.2)) (cwV 0 hts gX6_steps_X6_finish rfl rfl rfl (by decide +kernel) ⟨Nat.le_of_ble_eq_true rfl, Nat.le_of_ble_eq_true rfl⟩) hP hD (hK.sub [0, 1, 2, 3, 4, 5] rfl) hNW hS hA [0, 1, 2, 3, 4, 5, 6, 7, 8, 9] [] rfl (wr := []) rfl (by decide) (by decide) (by decide) rfl rfl rfl hl.1 rfl (Nat.le_of_ble_eq_true rfl) dX6_steps_87 ⟨Nat.le_of_ble_eq_true rfl, Nat.le_of_ble_eq_true rfl⟩ (fun H locs hP hD hS => ?_)
              generalize hz_10 : mX6_finish (u.1, u.2.1, u.2.2.1, (u.2.2.2.1.1, u.2.2.2.1.2.1, a0, u.2.2.2.1.2.2.2), (u.2.2.2.2.1.1, u.2.2.2.2.1.2.1, (mX3_widened a1), u.2.2.2.2.1.2.2.2), u.2.2.2.2.2.1, u.2.2.2.2.2.2) = z_10 at hP hD ⊢
              have hP : va_P (dC, dI) vwCl (WT ad ca z_10.2) H := hP.sub [0, 1, 2, 3, 4, 5, 6, 7, 8, 9] rfl
              have hD : va_D (va_A (WT ad ca u) s.heap.size) (WT ad ca z_10.2) := hD.sub [0, 1, 2, 3, 4, 5, 6, 7, 8, 9] (by decide) rfl
              refine W.eq (g2 := F0 m 90 ls (.int z_10.1 :: [])) rfl ?_
              have he : mX6_steps u a0 a1 = (z_10.1, z_10.2) := by rw [mX6_steps, if_pos c_1, if_pos c_3, if_pos c_4, if_pos c_6, if_neg c_7, if_neg c_9, hz_10]
              exact rM_i hx hb hr hlocks hP hD hS (by rw [he]) (by rw [he]) dX6_steps_90
            · refine lv_aload_n hx hb dX6_steps_63 rfl (lv_at hl 1 rfl) ?_
              refine lv_iconst (v := (4 : Int32)) hx hb dX6_steps_64 (by decide) ?_
              refine hc_M (C := RX6) (ci := 2) (T := TX6) (N := 7) (As := [.int (4 : Int32)]) (rest := []) ⟨hx, hb, hml, hown, hts⟩ (ct_X6_refuse l dC dI ad ca _ u (4 : Int32)) (cwV 1 hts gX6_steps_X6_refuse rfl rfl rfl (by decide +kernel) ⟨Nat.le_of_ble_eq_true rfl, Nat.le_of_ble_eq_true rfl⟩) hP hD (hK.sub [0, 1, 2, 3, 4, 5] rfl) hNW hS hA [0, 1, 2, 3, 4, 5, 6, 7, 8, 9] [] rfl (wr := []) rfl (by decide) (by decide) (by decide) rfl rfl rfl hl.1 rfl (Nat.le_of_ble_eq_true rfl) dX6_steps_65 ⟨Nat.le_of_ble_eq_true rfl, Nat.le_of_ble_eq_true rfl⟩ (fun H locs hP hD hS => ?_)
              generalize hz_11 : mX6_refuse u (4 : Int32) = z_11 at hP hD ⊢
              have hP : va_P (dC, dI) vwCl (WT ad ca z_11.2) H := hP.sub [0, 1, 2, 3, 4, 5, 6, 7, 8, 9] rfl
              have hD : va_D (va_A (WT ad ca u) s.heap.size) (WT ad ca z_11.2) := hD.sub [0, 1, 2, 3, 4, 5, 6, 7, 8, 9] (by decide) rfl
              refine W.eq (g2 := F0 m 68 ls (.int z_11.1 :: [])) rfl ?_
              have he : mX6_steps u a0 a1 = (z_11.1, z_11.2) := by rw [mX6_steps, if_pos c_1, if_pos c_3, if_pos c_4, if_pos c_6, if_neg c_7, if_pos c_9, hz_11]
              exact rM_i hx hb hr hlocks hP hD hS (by rw [he]) (by rw [he]) dX6_steps_68
        · refine lv_aload_n hx hb dX6_steps_42 rfl (lv_at hl 1 rfl) ?_
          refine lv_iconst (v := (3 : Int32)) hx hb dX6_steps_43 (by decide) ?_
          refine hc_M (C := RX6) (ci := 2) (T := TX6) (N := 7) (As := [.int (3 : Int32)]) (rest := []) ⟨hx, hb, hml, hown, hts⟩ (ct_X6_refuse l dC dI ad ca _ u (3 : Int32)) (cwV 1 hts gX6_steps_X6_refuse rfl rfl rfl (by decide +kernel) ⟨Nat.le_of_ble_eq_true rfl, Nat.le_of_ble_eq_true rfl⟩) hP hD (hK.sub [0, 1, 2, 3, 4, 5] rfl) hNW hS hA [0, 1, 2, 3, 4, 5, 6, 7, 8, 9] [] rfl (wr := []) rfl (by decide) (by decide) (by decide) rfl rfl rfl hl.1 rfl (Nat.le_of_ble_eq_true rfl) dX6_steps_44 ⟨Nat.le_of_ble_eq_true rfl, Nat.le_of_ble_eq_true rfl⟩ (fun H locs hP hD hS => ?_)
          generalize hz_12 : mX6_refuse u (3 : Int32) = z_12 at hP hD ⊢
          have hP : va_P (dC, dI) vwCl (WT ad ca z_12.2) H := hP.sub [0, 1, 2, 3, 4, 5, 6, 7, 8, 9] rfl
          have hD : va_D (va_A (WT ad ca u) s.heap.size) (WT ad ca z_12.2) := hD.sub [0, 1, 2, 3, 4, 5, 6, 7, 8, 9] (by decide) rfl
          refine W.eq (g2 := F0 m 47 ls (.int z_12.1 :: [])) rfl ?_
          have he : mX6_steps u a0 a1 = (z_12.1, z_12.2) := by rw [mX6_steps, if_pos c_1, if_pos c_3, if_pos c_4, if_neg c_6, hz_12]
          exact rM_i hx hb hr hlocks hP hD hS (by rw [he]) (by rw [he]) dX6_steps_47
    · refine lv_aload_n hx hb dX6_steps_21 rfl (lv_at hl 1 rfl) ?_
      refine lv_iconst (v := (2 : Int32)) hx hb dX6_steps_22 (by decide) ?_
      refine hc_M (C := RX6) (ci := 2) (T := TX6) (N := 7) (As := [.int (2 : Int32)]) (rest := []) ⟨hx, hb, hml, hown, hts⟩ (ct_X6_refuse l dC dI ad ca _ u (2 : Int32)) (cwV 1 hts gX6_steps_X6_refuse rfl rfl rfl (by decide +kernel) ⟨Nat.le_of_ble_eq_true rfl, Nat.le_of_ble_eq_true rfl⟩) hP hD (hK.sub [0, 1, 2, 3, 4, 5] rfl) hNW hS hA [0, 1, 2, 3, 4, 5, 6, 7, 8, 9] [] rfl (wr := []) rfl (by decide) (by decide) (by decide) rfl rfl rfl hl.1 rfl (Nat.le_of_ble_eq_true rfl) dX6_steps_23 ⟨Nat.le_of_ble_eq_true rfl, Nat.le_of_ble_eq_true rfl⟩ (fun H locs hP hD hS => ?_)
      generalize hz_13 : mX6_refuse u (2 : Int32) = z_13 at hP hD ⊢
      have hP : va_P (dC, dI) vwCl (WT ad ca z_13.2) H := hP.sub [0, 1, 2, 3, 4, 5, 6, 7, 8, 9] rfl
      have hD : va_D (va_A (WT ad ca u) s.heap.size) (WT ad ca z_13.2) := hD.sub [0, 1, 2, 3, 4, 5, 6, 7, 8, 9] (by decide) rfl
      refine W.eq (g2 := F0 m 26 ls (.int z_13.1 :: [])) rfl ?_
      have he : mX6_steps u a0 a1 = (z_13.1, z_13.2) := by rw [mX6_steps, if_pos c_1, if_neg c_3, hz_13]
      exact rM_i hx hb hr hlocks hP hD hS (by rw [he]) (by rw [he]) dX6_steps_26

def mX6_lean (u : TS) (a0 : Int32) (a1 : Int32) : Int32 × TS := (if (mX6_isPoint a0) = 0 then ((mX6_refuse u (1 : Int32)).1, (mX6_refuse u (1 : Int32)).2) else (if (mX6_isPoint a1) = 0 then ((mX6_refuse u (1 : Int32)).1, (mX6_refuse u (1 : Int32)).2) else ((mX6_putWalled u a0 (mX1_withSignOf (u.2.2.2.1.2.2.2 a0.toNatClampNeg) (u.2.2.2.1.2.2.2 a1.toNatClampNeg)) (mX1_withSignOf (u.2.2.2.2.1.2.2.2 a0.toNatClampNeg) (u.2.2.2.2.1.2.2.2 a1.toNatClampNeg))).1, (mX6_putWalled u a0 (mX1_withSignOf (u.2.2.2.1.2.2.2 a0.toNatClampNeg) (u.2.2.2.1.2.2.2 a1.toNatClampNeg)) (mX1_withSignOf (u.2.2.2.2.1.2.2.2 a0.toNatClampNeg) (u.2.2.2.2.1.2.2.2 a1.toNatClampNeg))).2)))
set_option maxHeartbeats 4000000 in
set_option maxRecDepth 100000 in
theorem ct_X6_lean (l : Launch) (dC : Nat → ClassId) (dI : Nat → Nat → Nat) (ad : Nat → Nat) (ca : Nat → ClassId) (sz : Nat) (u : TS) (a0 : Int32) (a1 : Int32) (hn : vp_in u.2.2.2.2.2.1.1 16) : Met l yX6_lean wsX6_lean { frames := 4, cells := 0, slots := 0, locals := 95 } (pM (dC, dI) vwCl [((ca 4), .long), ((ca 5), .long), ((ca 6), .long), ((ca 7), .int), ((ca 8), .long), ((ca 9), .long)] (WT ad ca u) sz [.ref (ad 0), .int a0, .int a1]) (qM (dC, dI) vwCl (WT ad ca u) sz (some (.int (mX6_lean u a0 a1).1)) (WT ad ca (mX6_lean u a0 a1).2)) 0 0 (va_A (WT ad ca u) sz) := by
  refine Met.ofW (cc := cX6_lean) (maxL := 3) (ret := (some .int)) (by decide) rfl ?_
  intro p e s m args below meth c s₁ B hml hv
  obtain ⟨rfl, hsz, hP, hK, hD0, hNW⟩ := hv
  subst hsz
  have hx := B.exec
  have hb := B.bytes
  have hr := B.returns
  have hts := atoms_spec (ws := wsX6_lean) B.pre
  have hown : s.vm.findClass RX6 = some m.cls := findClass_of_methodNamed B.named
  have hlocks := B.notSynchronized
  have hin0 : ∀ w ∈ wsX00, w ∈ wsX6_lean := by decide +kernel
  have hin6 : ∀ w ∈ wsX60, w ∈ wsX6_lean := by decide +kernel
  have hD : va_D (va_A (WT ad ca u) s.heap.size) (WT ad ca u) := hD0.self
  have hA : ∀ q : Nat, s.heap.size ≤ q → va_A (WT ad ca u) s.heap.size q := fun q h => Or.inr h
  have hS : va_S (va_A (WT ad ca u) s.heap.size) s.heap s.heap [] := va_S.rf
  have hl := lv_entry ([.ref (ad 0), .int a0, .int a1]) (n := 3) (Nat.le_of_ble_eq_true rfl)
  rw [lg_entry_eq]
  generalize (lg_sl ([.ref (ad 0), .int a0, .int a1]) ++ List.replicate (3 - (lg_sl ([.ref (ad 0), .int a0, .int a1])).length) Slot.unset).toArray = ls at hl ⊢
  have hl : lv_has ls 3 [(0, .ref (ad 0)), (1, .int a0), (2, .int a1)] := hl
  refine lv_iload_n hx hb dX6_lean_0 rfl (lv_at hl 1 rfl) ?_
  refine hc_S (As := [.int a0]) (rest := []) ⟨hx, hb, hml, hown, hts⟩ (ct_X6_isPoint l a0) (va_cwS 1 hts gX6_lean_X6_isPoint rfl rfl rfl (by decide +kernel) ⟨Nat.le_of_ble_eq_true rfl, Nat.le_of_ble_eq_true rfl⟩) rfl hl.1 rfl (Nat.le_of_ble_eq_true rfl) dX6_lean_1 ⟨Nat.le_of_ble_eq_true rfl, Nat.le_of_ble_eq_true rfl⟩ ?_
  refine lv_if_eq (tgt := 14) hx hb dX6_lean_4 (by decide) (fun c_1 => ?_) (fun c_1 => ?_)
  · refine lv_aload_n hx hb dX6_lean_14 rfl (lv_at hl 0 rfl) ?_
    refine lv_iconst (v := (1 : Int32)) hx hb dX6_lean_15 (by decide) ?_
    refine hc_M (C := RX6) (ci := 2) (T := TX6) (N := 7) (As := [.int (1 : Int32)]) (rest := []) ⟨hx, hb, hml, hown, hts⟩ (ct_X6_refuse l dC dI ad ca _ u (1 : Int32)) (cwV 1 hts gX6_lean_X6_refuse rfl rfl rfl (by decide +kernel) ⟨Nat.le_of_ble_eq_true rfl, Nat.le_of_ble_eq_true rfl⟩) hP hD (hK.sub [0, 1, 2, 3, 4, 5] rfl) hNW hS hA [0, 1, 2, 3, 4, 5, 6, 7, 8, 9] [] rfl (wr := []) rfl (by decide) (by decide) (by decide) rfl rfl rfl hl.1 rfl (Nat.le_of_ble_eq_true rfl) dX6_lean_16 ⟨Nat.le_of_ble_eq_true rfl, Nat.le_of_ble_eq_true rfl⟩ (fun H locs hP hD hS => ?_)
    generalize hz_2 : mX6_refuse u (1 : Int32) = z_2 at hP hD ⊢
    have hP : va_P (dC, dI) vwCl (WT ad ca z_2.2) H := hP.sub [0, 1, 2, 3, 4, 5, 6, 7, 8, 9] rfl
    have hD : va_D (va_A (WT ad ca u) s.heap.size) (WT ad ca z_2.2) := hD.sub [0, 1, 2, 3, 4, 5, 6, 7, 8, 9] (by decide) rfl
    refine W.eq (g2 := F0 m 19 ls (.int z_2.1 :: [])) rfl ?_
    have he : mX6_lean u a0 a1 = (z_2.1, z_2.2) := by rw [mX6_lean, if_pos c_1, hz_2]
    exact rM_i hx hb hr hlocks hP hD hS (by rw [he]) (by rw [he]) dX6_lean_19
  · refine lv_iload_n hx hb dX6_lean_7 rfl (lv_at hl 2 rfl) ?_
    refine hc_S (As := [.int a1]) (rest := []) ⟨hx, hb, hml, hown, hts⟩ (ct_X6_isPoint l a1) (va_cwS 1 hts gX6_lean_X6_isPoint rfl rfl rfl (by decide +kernel) ⟨Nat.le_of_ble_eq_true rfl, Nat.le_of_ble_eq_true rfl⟩) rfl hl.1 rfl (Nat.le_of_ble_eq_true rfl) dX6_lean_8 ⟨Nat.le_of_ble_eq_true rfl, Nat.le_of_ble_eq_true rfl⟩ ?_
    refine lv_if_ne (tgt := 20) hx hb dX6_lean_11 (by decide) (fun c_3 => ?_) (fun c_3 => ?_)
    · refine lv_aload_n hx hb dX6_lean_20 rfl (lv_at hl 0 rfl) ?_
      refine lv_iload_n hx hb dX6_lean_21 rfl (lv_at hl 1 rfl) ?_
      refine lv_aload_n hx hb dX6_lean_22 rfl (lv_at hl 0 rfl) ?_
      refine va_get (D := (dC, dI)) (ci := 2) (v := .ref (ad 1)) (C := RX6) (T := TX6) (N := 7) hx hb hts hin6 hown hK hP 0 rfl rfl 0 (by decide) (hts (.fieldLink RX6 12 "SnapTable" "widths" "LSnapTable$Axis;") (by decide +kernel)) (fun _ h9 => h9) rfl dX6_lean_23 ?_
      refine va_getN (D := (dC, dI)) (ci := 0) (v := .ref (ad 5)) (C := RX0) (T := TX0) (N := 5) hx hb hts hin0 hown hK hP 1 rfl rfl 1 (by decide) (va_Nw.use rfl hNW.1) (fun _ h9 => h9) rfl dX6_lean_26 ?_
      refine lv_iload_n hx hb dX6_lean_29 rfl (lv_at hl 1 rfl) ?_
      refine va_lald hx hb hK hP 5 1 rfl rfl (by first | with_reducible assumption | with_reducible exact pt_in (by with_reducible assumption) | with_reducible exact ptm_in (by with_reducible assumption) | exact LU.vin (B := 8) hm (by decide) (by with_reducible assumption) (by decide) | exact LU.vin (B := 4) hm (by decide) (by with_reducible assumption) (by decide) | exact LU.vin (B := 16) hm (by decide) (by with_reducible assumption) (by decide) | exact vp_in_nI (n := 0) (by decide) (by decide) | with_reducible exact gdm_in (by with_reducible assumption) (by with_reducible assumption) | with_reducible exact gd_in (by with_reducible assumption) (by with_reducible assumption)) dX6_lean_30 ?_
      refine lv_aload_n hx hb dX6_lean_31 rfl (lv_at hl 0 rfl) ?_
      refine va_get (D := (dC, dI)) (ci := 2) (v := .ref (ad 1)) (C := RX6) (T := TX6) (N := 7) hx hb hts hin6 hown hK hP 0 rfl rfl 0 (by decide) (hts (.fieldLink RX6 12 "SnapTable" "widths" "LSnapTable$Axis;") (by decide +kernel)) (fun _ h9 => h9) rfl dX6_lean_32 ?_
      refine va_getN (D := (dC, dI)) (ci := 0) (v := .ref (ad 5)) (C := RX0) (T := TX0) (N := 5) hx hb hts hin0 hown hK hP 1 rfl rfl 1 (by decide) (va_Nw.use rfl hNW.1) (fun _ h9 => h9) rfl dX6_lean_35 ?_
      refine lv_iload_n hx hb dX6_lean_38 rfl (lv_at hl 2 rfl) ?_
      refine va_lald hx hb hK hP 5 1 rfl rfl (by first | with_reducible assumption | with_reducible exact pt_in (by with_reducible assumption) | with_reducible exact ptm_in (by with_reducible assumption) | exact LU.vin (B := 8) hm (by decide) (by with_reducible assumption) (by decide) | exact LU.vin (B := 4) hm (by decide) (by with_reducible assumption) (by decide) | exact LU.vin (B := 16) hm (by decide) (by with_reducible assumption) (by decide) | exact vp_in_nI (n := 0) (by decide) (by decide) | with_reducible exact gdm_in (by with_reducible assumption) (by with_reducible assumption) | with_reducible exact gd_in (by with_reducible assumption) (by with_reducible assumption)) dX6_lean_39 ?_
      refine hc_S (As := [.long (u.2.2.2.1.2.2.2 a0.toNatClampNeg), .long (u.2.2.2.1.2.2.2 a1.toNatClampNeg)]) (rest := [.int a0, .ref (ad 0)]) ⟨hx, hb, hml, hown, hts⟩ (ct_X1_withSignOf l (u.2.2.2.1.2.2.2 a0.toNatClampNeg) (u.2.2.2.1.2.2.2 a1.toNatClampNeg)) (va_cwS 2 hts gX6_lean_X1_withSignOf rfl rfl rfl (by decide +kernel) ⟨Nat.le_of_ble_eq_true rfl, Nat.le_of_ble_eq_true rfl⟩) rfl hl.1 rfl (Nat.le_of_ble_eq_true rfl) dX6_lean_40 ⟨Nat.le_of_ble_eq_true rfl, Nat.le_of_ble_eq_true rfl⟩ ?_
      refine lv_aload_n hx hb dX6_lean_43 rfl (lv_at hl 0 rfl) ?_
      refine va_get (D := (dC, dI)) (ci := 2) (v := .ref (ad 2)) (C := RX6) (T := TX6) (N := 7) hx hb hts hin6 hown hK hP 0 rfl rfl 1 (by decide) (hts (.fieldLink RX6 18 "SnapTable" "heights" "LSnapTable$Axis;") (by decide +kernel)) (fun _ h9 => h9) rfl dX6_lean_44 ?_
      refine va_getN (D := (dC, dI)) (ci := 0) (v := .ref (ad 6)) (C := RX0) (T := TX0) (N := 5) hx hb hts hin0 hown hK hP 2 rfl rfl 1 (by decide) (va_Nw.use rfl hNW.1) (fun _ h9 => h9) rfl dX6_lean_47 ?_
      refine lv_iload_n hx hb dX6_lean_50 rfl (lv_at hl 1 rfl) ?_
      refine va_lald hx hb hK hP 6 2 rfl rfl (by first | with_reducible assumption | with_reducible exact pt_in (by with_reducible assumption) | with_reducible exact ptm_in (by with_reducible assumption) | exact LU.vin (B := 8) hm (by decide) (by with_reducible assumption) (by decide) | exact LU.vin (B := 4) hm (by decide) (by with_reducible assumption) (by decide) | exact LU.vin (B := 16) hm (by decide) (by with_reducible assumption) (by decide) | exact vp_in_nI (n := 0) (by decide) (by decide) | with_reducible exact gdm_in (by with_reducible assumption) (by with_reducible assumption) | with_reducible exact gd_in (by with_reducible assumption) (by with_reducible assumption)) dX6_lean_51 ?_
      refine lv_aload_n hx hb dX6_lean_52 rfl (lv_at hl 0 rfl) ?_
      refine va_get (D := (dC, dI)) (ci := 2) (v := .ref (ad 2)) (C := RX6) (T := TX6) (N := 7) hx hb hts hin6 hown hK hP 0 rfl rfl 1 (by decide) (hts (.fieldLink RX6 18 "SnapTable" "heights" "LSnapTable$Axis;") (by decide +kernel)) (fun _ h9 => h9) rfl dX6_lean_53 ?_
      refine va_getN (D := (dC, dI)) (ci := 0) (v := .ref (ad 6)) (C := RX0) (T := TX0) (N := 5) hx hb hts hin0 hown hK hP 2 rfl rfl 1 (by decide) (va_Nw.use rfl hNW.1) (fun _ h9 => h9) rfl dX6_lean_56 ?_
      refine lv_iload_n hx hb dX6_lean_59 rfl (lv_at hl 2 rfl) ?_
      refine va_lald hx hb hK hP 6 2 rfl rfl (by first | with_reducible assumption | with_reducible exact pt_in (by with_reducible assumption) | with_reducible exact ptm_in (by with_reducible assumption) | exact LU.vin (B := 8) hm (by decide) (by with_reducible assumption) (by decide) | exact LU.vin (B := 4) hm (by decide) (by with_reducible assumption) (by decide) | exact LU.vin (B := 16) hm (by decide) (by with_reducible assumption) (by decide) | exact vp_in_nI (n := 0) (by decide) (by decide) | with_reducible exact gdm_in (by with_reducible assumption) (by with_reducible assumption) | with_reducible exact gd_in (by with_reducible assumption) (by with_reducible assumption)) dX6_lean_60 ?_
      refine hc_S (As := [.long (u.2.2.2.2.1.2.2.2 a0.toNatClampNeg), .long (u.2.2.2.2.1.2.2.2 a1.toNatClampNeg)]) (rest := [.long (mX1_withSignOf (u.2.2.2.1.2.2.2 a0.toNatClampNeg) (u.2.2.2.1.2.2.2 a1.toNatClampNeg)), .int a0, .ref (ad 0)]) ⟨hx, hb, hml, hown, hts⟩ (ct_X1_withSignOf l (u.2.2.2.2.1.2.2.2 a0.toNatClampNeg) (u.2.2.2.2.1.2.2.2 a1.toNatClampNeg)) (va_cwS 2 hts gX6_lean_X1_withSignOf rfl rfl rfl (by decide +kernel) ⟨Nat.le_of_ble_eq_true rfl, Nat.le_of_ble_eq_true rfl⟩) rfl hl.1 rfl (Nat.le_of_ble_eq_true rfl) dX6_lean_61 ⟨Nat.le_of_ble_eq_true rfl, Nat.le_of_ble_eq_true rfl⟩ ?_
      refine hc_M (C := RX6) (ci := 2) (T := TX6) (N := 7) (As := [.int a0, .long (mX1_withSignOf (u.2.2.2.1.2.2.2 a0.toNatClampNeg) (u.2.2.2.1.2.2.2 a1.toNatClampNeg)), .long (mX1_withSignOf (u.2.2.2.2.1.2.2.2 a0.toNatClampNeg) (u.2.2.2.2.1.2.2.2 a1.toNatClampNeg))]) (rest := []) ⟨hx, hb, hml, hown, hts⟩ (ct_X6_putWalled l dC dI ad ca _ u a0 (mX1_withSignOf (u.2.2.2.1.2.2.2 a0.toNatClampNeg) (u.2.2.2.1.2.2.2 a1.toNatClampNeg)) (mX1_withSignOf (u.2.2.2.2.1.2.2.2 a0.toNatClampNeg) (u.2.2.2.2.1.2.2.2 a1.toNatClampNeg)) (by first | with_reducible assumption | with_reducible exact pt_in (by with_reducible assumption) | with_reducible exact hn) (by first | with_reducible assumption | with_reducible exact pt_in (by with_reducible assumption) | with_reducible exact hn)) (cwV 3 hts gX6_lean_X6_putWalled rfl rfl rfl (by decide +kernel) ⟨Nat.le_of_ble_eq_true rfl, Nat.le_of_ble_eq_true rfl⟩) hP hD (hK.sub [0, 1, 2, 3, 4, 5] rfl) hNW hS hA [0, 1, 2, 3, 4, 5, 6, 7, 8, 9] [] rfl (wr := []) rfl (by decide) (by decide) (by decide) rfl rfl rfl hl.1 rfl (Nat.le_of_ble_eq_true rfl) dX6_lean_64 ⟨Nat.le_of_ble_eq_true rfl, Nat.le_of_ble_eq_true rfl⟩ (fun H locs hP hD hS => ?_)
      generalize hz_4 : mX6_putWalled u a0 (mX1_withSignOf (u.2.2.2.1.2.2.2 a0.toNatClampNeg) (u.2.2.2.1.2.2.2 a1.toNatClampNeg)) (mX1_withSignOf (u.2.2.2.2.1.2.2.2 a0.toNatClampNeg) (u.2.2.2.2.1.2.2.2 a1.toNatClampNeg)) = z_4 at hP hD ⊢
      have hP : va_P (dC, dI) vwCl (WT ad ca z_4.2) H := hP.sub [0, 1, 2, 3, 4, 5, 6, 7, 8, 9] rfl
      have hD : va_D (va_A (WT ad ca u) s.heap.size) (WT ad ca z_4.2) := hD.sub [0, 1, 2, 3, 4, 5, 6, 7, 8, 9] (by decide) rfl
      refine W.eq (g2 := F0 m 67 ls (.int z_4.1 :: [])) rfl ?_
      have he : mX6_lean u a0 a1 = (z_4.1, z_4.2) := by rw [mX6_lean, if_neg c_1, if_neg c_3, hz_4]
      exact rM_i hx hb hr hlocks hP hD hS (by rw [he]) (by rw [he]) dX6_lean_67
    · refine lv_aload_n hx hb dX6_lean_14 rfl (lv_at hl 0 rfl) ?_
      refine lv_iconst (v := (1 : Int32)) hx hb dX6_lean_15 (by decide) ?_
      refine hc_M (C := RX6) (ci := 2) (T := TX6) (N := 7) (As := [.int (1 : Int32)]) (rest := []) ⟨hx, hb, hml, hown, hts⟩ (ct_X6_refuse l dC dI ad ca _ u (1 : Int32)) (cwV 1 hts gX6_lean_X6_refuse rfl rfl rfl (by decide +kernel) ⟨Nat.le_of_ble_eq_true rfl, Nat.le_of_ble_eq_true rfl⟩) hP hD (hK.sub [0, 1, 2, 3, 4, 5] rfl) hNW hS hA [0, 1, 2, 3, 4, 5, 6, 7, 8, 9] [] rfl (wr := []) rfl (by decide) (by decide) (by decide) rfl rfl rfl hl.1 rfl (Nat.le_of_ble_eq_true rfl) dX6_lean_16 ⟨Nat.le_of_ble_eq_true rfl, Nat.le_of_ble_eq_true rfl⟩ (fun H locs hP hD hS => ?_)
      generalize hz_5 : mX6_refuse u (1 : Int32) = z_5 at hP hD ⊢
      have hP : va_P (dC, dI) vwCl (WT ad ca z_5.2) H := hP.sub [0, 1, 2, 3, 4, 5, 6, 7, 8, 9] rfl
      have hD : va_D (va_A (WT ad ca u) s.heap.size) (WT ad ca z_5.2) := hD.sub [0, 1, 2, 3, 4, 5, 6, 7, 8, 9] (by decide) rfl
      refine W.eq (g2 := F0 m 19 ls (.int z_5.1 :: [])) rfl ?_
      have he : mX6_lean u a0 a1 = (z_5.1, z_5.2) := by rw [mX6_lean, if_neg c_1, if_pos c_3, hz_5]
      exact rM_i hx hb hr hlocks hP hD hS (by rw [he]) (by rw [he]) dX6_lean_19

def mX6_pull (u : TS) (a0 : Int32) (a1 : Int32) (a2 : Int32) : Int32 × TS := (if (mX6_isPoint a0) = 0 then ((mX6_refuse u (1 : Int32)).1, (mX6_refuse u (1 : Int32)).2) else (if (mX6_isPoint a1) = 0 then ((mX6_refuse u (1 : Int32)).1, (mX6_refuse u (1 : Int32)).2) else (if (mX6_isEnd a2) = 0 then ((mX6_refuse u (1 : Int32)).1, (mX6_refuse u (1 : Int32)).2) else ((mX6_put u a0 (mX1_outer (u.2.2.2.1.2.2.2 a0.toNatClampNeg) (u.2.2.2.1.2.2.2 a1.toNatClampNeg) a2) (mX1_outer (u.2.2.2.2.1.2.2.2 a0.toNatClampNeg) (u.2.2.2.2.1.2.2.2 a1.toNatClampNeg) a2)).1, (mX6_put u a0 (mX1_outer (u.2.2.2.1.2.2.2 a0.toNatClampNeg) (u.2.2.2.1.2.2.2 a1.toNatClampNeg) a2) (mX1_outer (u.2.2.2.2.1.2.2.2 a0.toNatClampNeg) (u.2.2.2.2.1.2.2.2 a1.toNatClampNeg) a2)).2))))
set_option maxHeartbeats 4000000 in
set_option maxRecDepth 100000 in
theorem ct_X6_pull (l : Launch) (dC : Nat → ClassId) (dI : Nat → Nat → Nat) (ad : Nat → Nat) (ca : Nat → ClassId) (sz : Nat) (u : TS) (a0 : Int32) (a1 : Int32) (a2 : Int32) (hn : vp_in u.2.2.2.2.2.1.1 16) : Met l yX6_pull wsX6_pull { frames := 3, cells := 0, slots := 0, locals := 68 } (pM (dC, dI) vwCl [((ca 4), .long), ((ca 5), .long), ((ca 6), .long), ((ca 7), .int), ((ca 8), .long), ((ca 9), .long)] (WT ad ca u) sz [.ref (ad 0), .int a0, .int a1, .int a2]) (qM (dC, dI) vwCl (WT ad ca u) sz (some (.int (mX6_pull u a0 a1 a2).1)) (WT ad ca (mX6_pull u a0 a1 a2).2)) 0 0 (va_A (WT ad ca u) sz) := by
  refine Met.ofW (cc := cX6_pull) (maxL := 4) (ret := (some .int)) (by decide) rfl ?_
  intro p e s m args below meth c s₁ B hml hv
  obtain ⟨rfl, hsz, hP, hK, hD0, hNW⟩ := hv
  subst hsz
  have hx := B.exec
  have hb := B.bytes
  have hr := B.returns
  have hts := atoms_spec (ws := wsX6_pull) B.pre
  have hown : s.vm.findClass RX6 = some m.cls := findClass_of_methodNamed B.named
  have hlocks := B.notSynchronized
  have hin0 : ∀ w ∈ wsX00, w ∈ wsX6_pull := by decide +kernel
  have hin6 : ∀ w ∈ wsX60, w ∈ wsX6_pull := by decide +kernel
  have hD : va_D (va_A (WT ad ca u) s.heap.size) (WT ad ca u) := hD0.self
  have hA : ∀ q : Nat, s.heap.size ≤ q → va_A (WT ad ca u) s.heap.size q := fun q h => Or.inr h
  have hS : va_S (va_A (WT ad ca u) s.heap.size) s.heap s.heap [] := va_S.rf
  have hl := lv_entry ([.ref (ad 0), .int a0, .int a1, .int a2]) (n := 4) (Nat.le_of_ble_eq_true rfl)
  rw [lg_entry_eq]
  generalize (lg_sl ([.ref (ad 0), .int a0, .int a1, .int a2]) ++ List.replicate (4 - (lg_sl ([.ref (ad 0), .int a0, .int a1, .int a2])).length) Slot.unset).toArray = ls at hl ⊢
  have hl : lv_has ls 4 [(0, .ref (ad 0)), (1, .int a0), (2, .int a1), (3, .int a2)] := hl
  refine lv_iload_n hx hb dX6_pull_0 rfl (lv_at hl 1 rfl) ?_
  refine hc_S (As := [.int a0]) (rest := []) ⟨hx, hb, hml, hown, hts⟩ (ct_X6_isPoint l a0) (va_cwS 1 hts gX6_pull_X6_isPoint rfl rfl rfl (by decide +kernel) ⟨Nat.le_of_ble_eq_true rfl, Nat.le_of_ble_eq_true rfl⟩) rfl hl.1 rfl (Nat.le_of_ble_eq_true rfl) dX6_pull_1 ⟨Nat.le_of_ble_eq_true rfl, Nat.le_of_ble_eq_true rfl⟩ ?_
  refine lv_if_eq (tgt := 21) hx hb dX6_pull_4 (by decide) (fun c_1 => ?_) (fun c_1 => ?_)
  · refine lv_aload_n hx hb dX6_pull_21 rfl (lv_at hl 0 rfl) ?_
    refine lv_iconst (v := (1 : Int32)) hx hb dX6_pull_22 (by decide) ?_
    refine hc_M (C := RX6) (ci := 2) (T := TX6) (N := 7) (As := [.int (1 : Int32)]) (rest := []) ⟨hx, hb, hml, hown, hts⟩ (ct_X6_refuse l dC dI ad ca _ u (1 : Int32)) (cwV 1 hts gX6_pull_X6_refuse rfl rfl rfl (by decide +kernel) ⟨Nat.le_of_ble_eq_true rfl, Nat.le_of_ble_eq_true rfl⟩) hP hD (hK.sub [0, 1, 2, 3, 4, 5] rfl) hNW hS hA [0, 1, 2, 3, 4, 5, 6, 7, 8, 9] [] rfl (wr := []) rfl (by decide) (by decide) (by decide) rfl rfl rfl hl.1 rfl (Nat.le_of_ble_eq_true rfl) dX6_pull_23 ⟨Nat.le_of_ble_eq_true rfl, Nat.le_of_ble_eq_true rfl⟩ (fun H locs hP hD hS => ?_)
    generalize hz_2 : mX6_refuse u (1 : Int32) = z_2 at hP hD ⊢
    have hP : va_P (dC, dI) vwCl (WT ad ca z_2.2) H := hP.sub [0, 1, 2, 3, 4, 5, 6, 7, 8, 9] rfl
    have hD : va_D (va_A (WT ad ca u) s.heap.size) (WT ad ca z_2.2) := hD.sub [0, 1, 2, 3, 4, 5, 6, 7, 8, 9] (by decide) rfl
    refine W.eq (g2 := F0 m 26 ls (.int z_2.1 :: [])) rfl ?_
    have he : mX6_pull u a0 a1 a2 = (z_2.1, z_2.2) := by rw [mX6_pull, if_pos c_1, hz_2]
    exact rM_i hx hb hr hlocks hP hD hS (by rw [he]) (by rw [he]) dX6_pull_26
  · refine lv_iload_n hx hb dX6_pull_7 rfl (lv_at hl 2 rfl) ?_
    refine hc_S (As := [.int a1]) (rest := []) ⟨hx, hb, hml, hown, hts⟩ (ct_X6_isPoint l a1) (va_cwS 1 hts gX6_pull_X6_isPoint rfl rfl rfl (by decide +kernel) ⟨Nat.le_of_ble_eq_true rfl, Nat.le_of_ble_eq_true rfl⟩) rfl hl.1 rfl (Nat.le_of_ble_eq_true rfl) dX6_pull_8 ⟨Nat.le_of_ble_eq_true rfl, Nat.le_of_ble_eq_true rfl⟩ ?_
    refine lv_if_eq (tgt := 21) hx hb dX6_pull_11 (by decide) (fun c_3 => ?_) (fun c_3 => ?_)
    · refine lv_aload_n hx hb dX6_pull_21 rfl (lv_at hl 0 rfl) ?_
      refine lv_iconst (v := (1 : Int32)) hx hb dX6_pull_22 (by decide) ?_
      refine hc_M (C := RX6) (ci := 2) (T := TX6) (N := 7) (As := [.int (1 : Int32)]) (rest := []) ⟨hx, hb, hml, hown, hts⟩ (ct_X6_refuse l dC dI ad ca _ u (1 : Int32)) (cwV 1 hts gX6_pull_X6_refuse rfl rfl rfl (by decide +kernel) ⟨Nat.le_of_ble_eq_true rfl, Nat.le_of_ble_eq_true rfl⟩) hP hD (hK.sub [0, 1, 2, 3, 4, 5] rfl) hNW hS hA [0, 1, 2, 3, 4, 5, 6, 7, 8, 9] [] rfl (wr := []) rfl (by decide) (by decide) (by decide) rfl rfl rfl hl.1 rfl (Nat.le_of_ble_eq_true rfl) dX6_pull_23 ⟨Nat.le_of_ble_eq_true rfl, Nat.le_of_ble_eq_true rfl⟩ (fun H locs hP hD hS => ?_)
      generalize hz_4 : mX6_refuse u (1 : Int32) = z_4 at hP hD ⊢
      have hP : va_P (dC, dI) vwCl (WT ad ca z_4.2) H := hP.sub [0, 1, 2, 3, 4, 5, 6, 7, 8, 9] rfl
      have hD : va_D (va_A (WT ad ca u) s.heap.size) (WT ad ca z_4.2) := hD.sub [0, 1, 2, 3, 4, 5, 6, 7, 8, 9] (by decide) rfl
      refine W.eq (g2 := F0 m 26 ls (.int z_4.1 :: [])) rfl ?_
      have he : mX6_pull u a0 a1 a2 = (z_4.1, z_4.2) := by rw [mX6_pull, if_neg c_1, if_pos c_3, hz_4]
      exact rM_i hx hb hr hlocks hP hD hS (by rw [he]) (by rw [he]) dX6_pull_26
    · refine lv_iload_n hx hb dX6_pull_14 rfl (lv_at hl 3 rfl) ?_
      refine hc_S (As := [.int a2]) (rest := []) ⟨hx, hb, hml, hown, hts⟩ (ct_X6_isEnd l a2) (va_cwS 1 hts gX6_pull_X6_isEnd rfl rfl rfl (by decide +kernel) ⟨Nat.le_of_ble_eq_true rfl, Nat.le_of_ble_eq_true rfl⟩) rfl hl.1 rfl (Nat.le_of_ble_eq_true rfl) dX6_pull_15 ⟨Nat.le_of_ble_eq_true rfl, Nat.le_of_ble_eq_true rfl⟩ ?_
      refine lv_if_ne (tgt := 27) hx hb dX6_pull_18 (by decide) (fun c_5 => ?_) (fun c_5 => ?_)
      · refine lv_aload_n hx hb dX6_pull_27 rfl (lv_at hl 0 rfl) ?_
        refine lv_iload_n hx hb dX6_pull_28 rfl (lv_at hl 1 rfl) ?_
        refine lv_aload_n hx hb dX6_pull_29 rfl (lv_at hl 0 rfl) ?_
        refine va_get (D := (dC, dI)) (ci := 2) (v := .ref (ad 1)) (C := RX6) (T := TX6) (N := 7) hx hb hts hin6 hown hK hP 0 rfl rfl 0 (by decide) (hts (.fieldLink RX6 12 "SnapTable" "widths" "LSnapTable$Axis;") (by decide +kernel)) (fun _ h9 => h9) rfl dX6_pull_30 ?_
        refine va_getN (D := (dC, dI)) (ci := 0) (v := .ref (ad 5)) (C := RX0) (T := TX0) (N := 5) hx hb hts hin0 hown hK hP 1 rfl rfl 1 (by decide) (va_Nw.use rfl hNW.1) (fun _ h9 => h9) rfl dX6_pull_33 ?_
        refine lv_iload_n hx hb dX6_pull_36 rfl (lv_at hl 1 rfl) ?_
        refine va_lald hx hb hK hP 5 1 rfl rfl (by first | with_reducible assumption | with_reducible exact pt_in (by with_reducible assumption) | with_reducible exact ptm_in (by with_reducible assumption) | exact LU.vin (B := 8) hm (by decide) (by with_reducible assumption) (by decide) | exact LU.vin (B := 4) hm (by decide) (by with_reducible assumption) (by decide) | exact LU.vin (B := 16) hm (by decide) (by with_reducible assumption) (by decide) | exact vp_in_nI (n := 0) (by decide) (by decide) | with_reducible exact gdm_in (by with_reducible assumption) (by with_reducible assumption) | with_reducible exact gd_in (by with_reducible assumption) (by with_reducible assumption)) dX6_pull_37 ?_
        refine lv_aload_n hx hb dX6_pull_38 rfl (lv_at hl 0 rfl) ?_
        refine va_get (D := (dC, dI)) (ci := 2) (v := .ref (ad 1)) (C := RX6) (T := TX6) (N := 7) hx hb hts hin6 hown hK hP 0 rfl rfl 0 (by decide) (hts (.fieldLink RX6 12 "SnapTable" "widths" "LSnapTable$Axis;") (by decide +kernel)) (fun _ h9 => h9) rfl dX6_pull_39 ?_
        refine va_getN (D := (dC, dI)) (ci := 0) (v := .ref (ad 5)) (C := RX0) (T := TX0) (N := 5) hx hb hts hin0 hown hK hP 1 rfl rfl 1 (by decide) (va_Nw.use rfl hNW.1) (fun _ h9 => h9) rfl dX6_pull_42 ?_
        refine lv_iload_n hx hb dX6_pull_45 rfl (lv_at hl 2 rfl) ?_
        refine va_lald hx hb hK hP 5 1 rfl rfl (by first | with_reducible assumption | with_reducible exact pt_in (by with_reducible assumption) | with_reducible exact ptm_in (by with_reducible assumption) | exact LU.vin (B := 8) hm (by decide) (by with_reducible assumption) (by decide) | exact LU.vin (B := 4) hm (by decide) (by with_reducible assumption) (by decide) | exact LU.vin (B := 16) hm (by decide) (by with_reducible assumption) (by decide) | exact vp_in_nI (n := 0) (by decide) (by decide) | with_reducible exact gdm_in (by with_reducible assumption) (by with_reducible assumption) | with_reducible exact gd_in (by with_reducible assumption) (by with_reducible assumption)) dX6_pull_46 ?_
        refine lv_iload_n hx hb dX6_pull_47 rfl (lv_at hl 3 rfl) ?_
        refine hc_S (As := [.long (u.2.2.2.1.2.2.2 a0.toNatClampNeg), .long (u.2.2.2.1.2.2.2 a1.toNatClampNeg), .int a2]) (rest := [.int a0, .ref (ad 0)]) ⟨hx, hb, hml, hown, hts⟩ (ct_X1_outer l (u.2.2.2.1.2.2.2 a0.toNatClampNeg) (u.2.2.2.1.2.2.2 a1.toNatClampNeg) a2) (va_cwS 3 hts gX6_pull_X1_outer rfl rfl rfl (by decide +kernel) ⟨Nat.le_of_ble_eq_true rfl, Nat.le_of_ble_eq_true rfl⟩) rfl hl.1 rfl (Nat.le_of_ble_eq_true rfl) dX6_pull_48 ⟨Nat.le_of_ble_eq_true rfl, Nat.le_of_ble_eq_true rfl⟩ ?_
        refine lv_aload_n hx hb dX6_pull_51 rfl (lv_at hl 0 rfl) ?_
        refine va_get (D := (dC, dI)) (ci := 2) (v := .ref (ad 2)) (C := RX6) (T := TX6) (N := 7) hx hb hts hin6 hown hK hP 0 rfl rfl 1 (by decide) (hts (.fieldLink RX6 18 "SnapTable" "heights" "LSnapTable$Axis;") (by decide +kernel)) (fun _ h9 => h9) rfl dX6_pull_52 ?_
        refine va_getN (D := (dC, dI)) (ci := 0) (v := .ref (ad 6)) (C := RX0) (T := TX0) (N := 5) hx hb hts hin0 hown hK hP 2 rfl rfl 1 (by decide) (va_Nw.use rfl hNW.1) (fun _ h9 => h9) rfl dX6_pull_55 ?_
        refine lv_iload_n hx hb dX6_pull_58 rfl (lv_at hl 1 rfl) ?_
        refine va_lald hx hb hK hP 6 2 rfl rfl (by first | with_reducible assumption | with_reducible exact pt_in (by with_reducible assumption) | with_reducible exact ptm_in (by with_reducible assumption) | exact LU.vin (B := 8) hm (by decide) (by with_reducible assumption) (by decide) | exact LU.vin (B := 4) hm (by decide) (by with_reducible assumption) (by decide) | exact LU.vin (B := 16) hm (by decide) (by with_reducible assumption) (by decide) | exact vp_in_nI (n := 0) (by decide) (by decide) | with_reducible exact gdm_in (by with_reducible assumption) (by with_reducible assumption) | with_reducible exact gd_in (by with_reducible assumption) (by with_reducible assumption)) dX6_pull_59 ?_
        refine lv_aload_n hx hb dX6_pull_60 rfl (lv_at hl 0 rfl) ?_
        refine va_get (D := (dC, dI)) (ci := 2) (v := .ref (ad 2)) (C := RX6) (T := TX6) (N := 7) hx hb hts hin6 hown hK hP 0 rfl rfl 1 (by decide) (hts (.fieldLink RX6 18 "SnapTable" "heights" "LSnapTable$Axis;") (by decide +kernel)) (fun _ h9 => h9) rfl dX6_pull_61 ?_
        refine va_getN (D := (dC, dI)) (ci := 0) (v := .ref (ad 6)) (C := RX0) (T := TX0) (N := 5) hx hb hts hin0 hown hK hP 2 rfl rfl 1 (by decide) (va_Nw.use rfl hNW.1) (fun _ h9 => h9) rfl dX6_pull_64 ?_
        refine lv_iload_n hx hb dX6_pull_67 rfl (lv_at hl 2 rfl) ?_
        refine va_lald hx hb hK hP 6 2 rfl rfl (by first | with_reducible assumption | with_reducible exact pt_in (by with_reducible assumption) | with_reducible exact ptm_in (by with_reducible assumption) | exact LU.vin (B := 8) hm (by decide) (by with_reducible assumption) (by decide) | exact LU.vin (B := 4) hm (by decide) (by with_reducible assumption) (by decide) | exact LU.vin (B := 16) hm (by decide) (by with_reducible assumption) (by decide) | exact vp_in_nI (n := 0) (by decide) (by decide) | with_reducible exact gdm_in (by with_reducible assumption) (by with_reducible assumption) | with_reducible exact gd_in (by with_reducible assumption) (by with_reducible assumption)) dX6_pull_68 ?_
        refine lv_iload_n hx hb dX6_pull_69 rfl (lv_at hl 3 rfl) ?_
        refine hc_S (As := [.long (u.2.2.2.2.1.2.2.2 a0.toNatClampNeg), .long (u.2.2.2.2.1.2.2.2 a1.toNatClampNeg), .int a2]) (rest := [.long (mX1_outer (u.2.2.2.1.2.2.2 a0.toNatClampNeg) (u.2.2.2.1.2.2.2 a1.toNatClampNeg) a2), .int a0, .ref (ad 0)]) ⟨hx, hb, hml, hown, hts⟩ (ct_X1_outer l (u.2.2.2.2.1.2.2.2 a0.toNatClampNeg) (u.2.2.2.2.1.2.2.2 a1.toNatClampNeg) a2) (va_cwS 3 hts gX6_pull_X1_outer rfl rfl rfl (by decide +kernel) ⟨Nat.le_of_ble_eq_true rfl, Nat.le_of_ble_eq_true rfl⟩) rfl hl.1 rfl (Nat.le_of_ble_eq_true rfl) dX6_pull_70 ⟨Nat.le_of_ble_eq_true rfl, Nat.le_of_ble_eq_true rfl⟩ ?_
        refine hc_M (C := RX6) (ci := 2) (T := TX6) (N := 7) (As := [.int a0, .long (mX1_outer (u.2.2.2.1.2.2.2 a0.toNatClampNeg) (u.2.2.2.1.2.2.2 a1.toNatClampNeg) a2), .long (mX1_outer (u.2.2.2.2.1.2.2.2 a0.toNatClampNeg) (u.2.2.2.2.1.2.2.2 a1.toNatClampNeg) a2)]) (rest := []) ⟨hx, hb, hml, hown, hts⟩ (ct_X6_put l dC dI ad ca _ u a0 (mX1_outer (u.2.2.2.1.2.2.2 a0.toNatClampNeg) (u.2.2.2.1.2.2.2 a1.toNatClampNeg) a2) (mX1_outer (u.2.2.2.2.1.2.2.2 a0.toNatClampNeg) (u.2.2.2.2.1.2.2.2 a1.toNatClampNeg) a2) (by first | with_reducible assumption | with_reducible exact pt_in (by with_reducible assumption) | with_reducible exact hn) (by first | with_reducible assumption | with_reducible exact pt_in (by with_reducible assumption) | with_reducible exact hn)) (cwV 3 hts gX6_pull_X6_put rfl rfl rfl (by decide +kernel) ⟨Nat.le_of_ble_eq_true rfl, Nat.le_of_ble_eq_true rfl⟩) hP hD (hK.sub [0, 1, 2, 3, 4, 5] rfl) hNW hS hA [0, 1, 2, 3, 4, 5, 6, 7, 8, 9] [] rfl (wr := []) rfl (by decide) (by decide) (by decide) rfl rfl rfl hl.1 rfl (Nat.le_of_ble_eq_true rfl) dX6_pull_73 ⟨Nat.le_of_ble_eq_true rfl, Nat.le_of_ble_eq_true rfl⟩ (fun H locs hP hD hS => ?_)
        generalize hz_6 : mX6_put u a0 (mX1_outer (u.2.2.2.1.2.2.2 a0.toNatClampNeg) (u.2.2.2.1.2.2.2 a1.toNatClampNeg) a2) (mX1_outer (u.2.2.2.2.1.2.2.2 a0.toNatClampNeg) (u.2.2.2.2.1.2.2.2 a1.toNatClampNeg) a2) = z_6 at hP hD ⊢
        have hP : va_P (dC, dI) vwCl (WT ad ca z_6.2) H := hP.sub [0, 1, 2, 3, 4, 5, 6, 7, 8, 9] rfl
        have hD : va_D (va_A (WT ad ca u) s.heap.size) (WT ad ca z_6.2) := hD.sub [0, 1, 2, 3, 4, 5, 6, 7, 8, 9] (by decide) rfl
        refine W.eq (g2 := F0 m 76 ls (.int z_6.1 :: [])) rfl ?_
        have he : mX6_pull u a0 a1 a2 = (z_6.1, z_6.2) := by rw [mX6_pull, if_neg c_1, if_neg c_3, if_neg c_5, hz_6]
        exact rM_i hx hb hr hlocks hP hD hS (by rw [he]) (by rw [he]) dX6_pull_76
      · refine lv_aload_n hx hb dX6_pull_21 rfl (lv_at hl 0 rfl) ?_
        refine lv_iconst (v := (1 : Int32)) hx hb dX6_pull_22 (by decide) ?_
        refine hc_M (C := RX6) (ci := 2) (T := TX6) (N := 7) (As := [.int (1 : Int32)]) (rest := []) ⟨hx, hb, hml, hown, hts⟩ (ct_X6_refuse l dC dI ad ca _ u (1 : Int32)) (cwV 1 hts gX6_pull_X6_refuse rfl rfl rfl (by decide +kernel) ⟨Nat.le_of_ble_eq_true rfl, Nat.le_of_ble_eq_true rfl⟩) hP hD (hK.sub [0, 1, 2, 3, 4, 5] rfl) hNW hS hA [0, 1, 2, 3, 4, 5, 6, 7, 8, 9] [] rfl (wr := []) rfl (by decide) (by decide) (by decide) rfl rfl rfl hl.1 rfl (Nat.le_of_ble_eq_true rfl) dX6_pull_23 ⟨Nat.le_of_ble_eq_true rfl, Nat.le_of_ble_eq_true rfl⟩ (fun H locs hP hD hS => ?_)
        generalize hz_7 : mX6_refuse u (1 : Int32) = z_7 at hP hD ⊢
        have hP : va_P (dC, dI) vwCl (WT ad ca z_7.2) H := hP.sub [0, 1, 2, 3, 4, 5, 6, 7, 8, 9] rfl
        have hD : va_D (va_A (WT ad ca u) s.heap.size) (WT ad ca z_7.2) := hD.sub [0, 1, 2, 3, 4, 5, 6, 7, 8, 9] (by decide) rfl
        refine W.eq (g2 := F0 m 26 ls (.int z_7.1 :: [])) rfl ?_
        have he : mX6_pull u a0 a1 a2 = (z_7.1, z_7.2) := by rw [mX6_pull, if_neg c_1, if_neg c_3, if_pos c_5, hz_7]
        exact rM_i hx hb hr hlocks hP hD hS (by rw [he]) (by rw [he]) dX6_pull_26

def mX6_guide (u : TS) (a0 : Int32) (a1 : Int64) : Int32 × TS := (if a0 < 0 then ((mX6_refuse u (1 : Int32)).1, (mX6_refuse u (1 : Int32)).2) else (if a0 < (4 : Int32) then (if (mX1_isNone a1) = 0 then ((mX6_finish (u.1, u.2.1, u.2.2.1, u.2.2.2.1, u.2.2.2.2.1, u.2.2.2.2.2.1, (vp_updL u.2.2.2.2.2.2 a0.toNatClampNeg a1))).1, (mX6_finish (u.1, u.2.1, u.2.2.1, u.2.2.2.1, u.2.2.2.2.1, u.2.2.2.2.2.1, (vp_updL u.2.2.2.2.2.2 a0.toNatClampNeg a1))).2) else ((mX6_refuse u (2 : Int32)).1, (mX6_refuse u (2 : Int32)).2)) else ((mX6_refuse u (1 : Int32)).1, (mX6_refuse u (1 : Int32)).2)))
set_option maxHeartbeats 4000000 in
set_option maxRecDepth 100000 in
theorem ct_X6_guide (l : Launch) (dC : Nat → ClassId) (dI : Nat → Nat → Nat) (ad : Nat → Nat) (ca : Nat → ClassId) (sz : Nat) (u : TS) (a0 : Int32) (a1 : Int64) : Met l yX6_guide wsX6_guide { frames := 1, cells := 0, slots := 0, locals := 21 } (pM (dC, dI) vwCl [((ca 4), .long), ((ca 5), .long), ((ca 6), .long), ((ca 7), .int), ((ca 8), .long), ((ca 9), .long)] (WT ad ca u) sz [.ref (ad 0), .int a0, .long a1]) (qM (dC, dI) vwCl (WT ad ca u) sz (some (.int (mX6_guide u a0 a1).1)) (WT ad ca (mX6_guide u a0 a1).2)) 0 0 (va_A (WT ad ca u) sz) := by
  refine Met.ofW (cc := cX6_guide) (maxL := 4) (ret := (some .int)) (by decide) rfl ?_
  intro p e s m args below meth c s₁ B hml hv
  obtain ⟨rfl, hsz, hP, hK, hD0, hNW⟩ := hv
  subst hsz
  have hx := B.exec
  have hb := B.bytes
  have hr := B.returns
  have hts := atoms_spec (ws := wsX6_guide) B.pre
  have hown : s.vm.findClass RX6 = some m.cls := findClass_of_methodNamed B.named
  have hlocks := B.notSynchronized
  have hin6 : ∀ w ∈ wsX60, w ∈ wsX6_guide := by decide +kernel
  have hD : va_D (va_A (WT ad ca u) s.heap.size) (WT ad ca u) := hD0.self
  have hA : ∀ q : Nat, s.heap.size ≤ q → va_A (WT ad ca u) s.heap.size q := fun q h => Or.inr h
  have hS : va_S (va_A (WT ad ca u) s.heap.size) s.heap s.heap [] := va_S.rf
  have hl := lv_entry ([.ref (ad 0), .int a0, .long a1]) (n := 4) (Nat.le_of_ble_eq_true rfl)
  rw [lg_entry_eq]
  generalize (lg_sl ([.ref (ad 0), .int a0, .long a1]) ++ List.replicate (4 - (lg_sl ([.ref (ad 0), .int a0, .long a1])).length) Slot.unset).toArray = ls at hl ⊢
  have hl : lv_has ls 4 [(0, .ref (ad 0)), (1, .int a0), (2, .long a1)] := hl
  refine lv_iload_n hx hb dX6_guide_0 rfl (lv_at hl 1 rfl) ?_
  refine lv_if_lt (tgt := 9) hx hb dX6_guide_1 (by decide) (fun c_1 => ?_) (fun c_1 => ?_)
  · refine lv_aload_n hx hb dX6_guide_9 rfl (lv_at hl 0 rfl) ?_
    refine lv_iconst (v := (1 : Int32)) hx hb dX6_guide_10 (by decide) ?_
    refine hc_M (C := RX6) (ci := 2) (T := TX6) (N := 7) (As := [.int (1 : Int32)]) (rest := []) ⟨hx, hb, hml, hown, hts⟩ (ct_X6_refuse l dC dI ad ca _ u (1 : Int32)) (cwV 1 hts gX6_guide_X6_refuse rfl rfl rfl (by decide +kernel) ⟨Nat.le_of_ble_eq_true rfl, Nat.le_of_ble_eq_true rfl⟩) hP hD (hK.sub [0, 1, 2, 3, 4, 5] rfl) hNW hS hA [0, 1, 2, 3, 4, 5, 6, 7, 8, 9] [] rfl (wr := []) rfl (by decide) (by decide) (by decide) rfl rfl rfl hl.1 rfl (Nat.le_of_ble_eq_true rfl) dX6_guide_11 ⟨Nat.le_of_ble_eq_true rfl, Nat.le_of_ble_eq_true rfl⟩ (fun H locs hP hD hS => ?_)
    generalize hz_2 : mX6_refuse u (1 : Int32) = z_2 at hP hD ⊢
    have hP : va_P (dC, dI) vwCl (WT ad ca z_2.2) H := hP.sub [0, 1, 2, 3, 4, 5, 6, 7, 8, 9] rfl
    have hD : va_D (va_A (WT ad ca u) s.heap.size) (WT ad ca z_2.2) := hD.sub [0, 1, 2, 3, 4, 5, 6, 7, 8, 9] (by decide) rfl
    refine W.eq (g2 := F0 m 14 ls (.int z_2.1 :: [])) rfl ?_
    have he : mX6_guide u a0 a1 = (z_2.1, z_2.2) := by rw [mX6_guide, if_pos c_1, hz_2]
    exact rM_i hx hb hr hlocks hP hD hS (by rw [he]) (by rw [he]) dX6_guide_14
  · refine lv_iload_n hx hb dX6_guide_4 rfl (lv_at hl 1 rfl) ?_
    refine lv_iconst (v := (4 : Int32)) hx hb dX6_guide_5 (by decide) ?_
    refine lv_icmp_lt (tgt := 15) hx hb dX6_guide_6 (by decide) (fun c_3 => ?_) (fun c_3 => ?_)
    · refine lv_lload_n hx hb dX6_guide_15 rfl (lv_at hl 2 rfl) ?_
      refine hc_S (As := [.long a1]) (rest := []) ⟨hx, hb, hml, hown, hts⟩ (ct_X1_isNone l a1) (va_cwS 1 hts gX6_guide_X1_isNone rfl rfl rfl (by decide +kernel) ⟨Nat.le_of_ble_eq_true rfl, Nat.le_of_ble_eq_true rfl⟩) rfl hl.1 rfl (Nat.le_of_ble_eq_true rfl) dX6_guide_16 ⟨Nat.le_of_ble_eq_true rfl, Nat.le_of_ble_eq_true rfl⟩ ?_
      refine lv_if_eq (tgt := 28) hx hb dX6_guide_19 (by decide) (fun c_4 => ?_) (fun c_4 => ?_)
      · refine lv_aload_n hx hb dX6_guide_28 rfl (lv_at hl 0 rfl) ?_
        refine va_get (D := (dC, dI)) (ci := 2) (v := .ref (ad 4)) (C := RX6) (T := TX6) (N := 7) hx hb hts hin6 hown hK hP 0 rfl rfl 3 (by decide) (hts (.fieldLink RX6 28 "SnapTable" "guides" "[J") (by decide +kernel)) (fun _ h9 => h9) rfl dX6_guide_29 ?_
        refine lv_iload_n hx hb dX6_guide_32 rfl (lv_at hl 1 rfl) ?_
        refine lv_lload_n hx hb dX6_guide_33 rfl (lv_at hl 2 rfl) ?_
        refine va_last hx hb hK hP hD hS 4 0 rfl rfl (by first | with_reducible assumption | with_reducible exact pt_in (by with_reducible assumption) | with_reducible exact ptm_in (by with_reducible assumption) | exact LU.vin (B := 8) hm (by decide) (by with_reducible assumption) (by decide) | exact LU.vin (B := 4) hm (by decide) (by with_reducible assumption) (by decide) | exact LU.vin (B := 16) hm (by decide) (by with_reducible assumption) (by decide) | exact vp_in_nI (n := 0) (by decide) (by decide) | with_reducible exact gdm_in (by with_reducible assumption) (by with_reducible assumption) | with_reducible exact gd_in (by with_reducible assumption) (by with_reducible assumption)) dX6_guide_34 (fun H locs hP hD hS => ?_)
        have hP : va_P (dC, dI) vwCl (WT ad ca (u.1, u.2.1, u.2.2.1, u.2.2.2.1, u.2.2.2.2.1, u.2.2.2.2.2.1, (vp_updL u.2.2.2.2.2.2 a0.toNatClampNeg a1))) H := hP
        have hD : va_D (va_A (WT ad ca u) s.heap.size) (WT ad ca (u.1, u.2.1, u.2.2.1, u.2.2.2.1, u.2.2.2.2.1, u.2.2.2.2.2.1, (vp_updL u.2.2.2.2.2.2 a0.toNatClampNeg a1))) := hD
        refine lv_aload_n hx hb dX6_guide_35 rfl (lv_at hl 0 rfl) ?_
        refine hc_M (C := RX6) (ci := 2) (T := TX6) (N := 7) (As := []) (rest := []) ⟨hx, hb, hml, hown, hts⟩ (ct_X6_finish l dC dI ad ca _ (u.1, u.2.1, u.2.2.1, u.2.2.2.1, u.2.2.2.2.1, u.2.2.2.2.2.1, (vp_updL u.2.2.2.2.2.2 a0.toNatClampNeg a1))) (cwV 0 hts gX6_guide_X6_finish rfl rfl rfl (by decide +kernel) ⟨Nat.le_of_ble_eq_true rfl, Nat.le_of_ble_eq_true rfl⟩) hP hD (hK.sub [0, 1, 2, 3, 4, 5] rfl) hNW hS hA [0, 1, 2, 3, 4, 5, 6, 7, 8, 9] [] rfl (wr := []) rfl (by decide) (by decide) (by decide) rfl rfl rfl hl.1 rfl (Nat.le_of_ble_eq_true rfl) dX6_guide_36 ⟨Nat.le_of_ble_eq_true rfl, Nat.le_of_ble_eq_true rfl⟩ (fun H locs hP hD hS => ?_)
        generalize hz_5 : mX6_finish (u.1, u.2.1, u.2.2.1, u.2.2.2.1, u.2.2.2.2.1, u.2.2.2.2.2.1, (vp_updL u.2.2.2.2.2.2 a0.toNatClampNeg a1)) = z_5 at hP hD ⊢
        have hP : va_P (dC, dI) vwCl (WT ad ca z_5.2) H := hP.sub [0, 1, 2, 3, 4, 5, 6, 7, 8, 9] rfl
        have hD : va_D (va_A (WT ad ca u) s.heap.size) (WT ad ca z_5.2) := hD.sub [0, 1, 2, 3, 4, 5, 6, 7, 8, 9] (by decide) rfl
        refine W.eq (g2 := F0 m 39 ls (.int z_5.1 :: [])) rfl ?_
        have he : mX6_guide u a0 a1 = (z_5.1, z_5.2) := by rw [mX6_guide, if_neg c_1, if_pos c_3, if_pos c_4, hz_5]
        exact rM_i hx hb hr hlocks hP hD hS (by rw [he]) (by rw [he]) dX6_guide_39
      · refine lv_aload_n hx hb dX6_guide_22 rfl (lv_at hl 0 rfl) ?_
        refine lv_iconst (v := (2 : Int32)) hx hb dX6_guide_23 (by decide) ?_
        refine hc_M (C := RX6) (ci := 2) (T := TX6) (N := 7) (As := [.int (2 : Int32)]) (rest := []) ⟨hx, hb, hml, hown, hts⟩ (ct_X6_refuse l dC dI ad ca _ u (2 : Int32)) (cwV 1 hts gX6_guide_X6_refuse rfl rfl rfl (by decide +kernel) ⟨Nat.le_of_ble_eq_true rfl, Nat.le_of_ble_eq_true rfl⟩) hP hD (hK.sub [0, 1, 2, 3, 4, 5] rfl) hNW hS hA [0, 1, 2, 3, 4, 5, 6, 7, 8, 9] [] rfl (wr := []) rfl (by decide) (by decide) (by decide) rfl rfl rfl hl.1 rfl (Nat.le_of_ble_eq_true rfl) dX6_guide_24 ⟨Nat.le_of_ble_eq_true rfl, Nat.le_of_ble_eq_true rfl⟩ (fun H locs hP hD hS => ?_)
        generalize hz_6 : mX6_refuse u (2 : Int32) = z_6 at hP hD ⊢
        have hP : va_P (dC, dI) vwCl (WT ad ca z_6.2) H := hP.sub [0, 1, 2, 3, 4, 5, 6, 7, 8, 9] rfl
        have hD : va_D (va_A (WT ad ca u) s.heap.size) (WT ad ca z_6.2) := hD.sub [0, 1, 2, 3, 4, 5, 6, 7, 8, 9] (by decide) rfl
        refine W.eq (g2 := F0 m 27 ls (.int z_6.1 :: [])) rfl ?_
        have he : mX6_guide u a0 a1 = (z_6.1, z_6.2) := by rw [mX6_guide, if_neg c_1, if_pos c_3, if_neg c_4, hz_6]
        exact rM_i hx hb hr hlocks hP hD hS (by rw [he]) (by rw [he]) dX6_guide_27
    · refine lv_aload_n hx hb dX6_guide_9 rfl (lv_at hl 0 rfl) ?_
      refine lv_iconst (v := (1 : Int32)) hx hb dX6_guide_10 (by decide) ?_
      refine hc_M (C := RX6) (ci := 2) (T := TX6) (N := 7) (As := [.int (1 : Int32)]) (rest := []) ⟨hx, hb, hml, hown, hts⟩ (ct_X6_refuse l dC dI ad ca _ u (1 : Int32)) (cwV 1 hts gX6_guide_X6_refuse rfl rfl rfl (by decide +kernel) ⟨Nat.le_of_ble_eq_true rfl, Nat.le_of_ble_eq_true rfl⟩) hP hD (hK.sub [0, 1, 2, 3, 4, 5] rfl) hNW hS hA [0, 1, 2, 3, 4, 5, 6, 7, 8, 9] [] rfl (wr := []) rfl (by decide) (by decide) (by decide) rfl rfl rfl hl.1 rfl (Nat.le_of_ble_eq_true rfl) dX6_guide_11 ⟨Nat.le_of_ble_eq_true rfl, Nat.le_of_ble_eq_true rfl⟩ (fun H locs hP hD hS => ?_)
      generalize hz_7 : mX6_refuse u (1 : Int32) = z_7 at hP hD ⊢
      have hP : va_P (dC, dI) vwCl (WT ad ca z_7.2) H := hP.sub [0, 1, 2, 3, 4, 5, 6, 7, 8, 9] rfl
      have hD : va_D (va_A (WT ad ca u) s.heap.size) (WT ad ca z_7.2) := hD.sub [0, 1, 2, 3, 4, 5, 6, 7, 8, 9] (by decide) rfl
      refine W.eq (g2 := F0 m 14 ls (.int z_7.1 :: [])) rfl ?_
      have he : mX6_guide u a0 a1 = (z_7.1, z_7.2) := by rw [mX6_guide, if_neg c_1, if_neg c_3, hz_7]
      exact rM_i hx hb hr hlocks hP hD hS (by rw [he]) (by rw [he]) dX6_guide_14
