theorem value_nn (x : Int64) : FP.dIsNaN (mX1_value x) = false := by
  rw [mX1_value]
  split
  · exact vos_nn x
  · rw [Jvm.FP.dneg_nan]; exact vos_nn x
theorem dn_d2f {a : UInt64} (h : FP.dIsNaN a = false) : FP.fIsNaN (FP.d2f a) = false := by rw [Jvm.FP.d2f_nan]; exact h
theorem dn_f2d {a : UInt32} (h : FP.fIsNaN a = false) : FP.dIsNaN (FP.f2d a) = false := by rw [Jvm.FP.f2d_nan]; exact h
theorem pt_in {k : Int32} (h : ¬ mX6_isPoint k = 0) : vp_in k 8 := by
  rw [vp_in_iff]
  unfold mX6_isPoint at h
  split at h
  · exact absurd rfl h
  · split at h
    · exact absurd rfl h
    · rename_i h1 h2
      rw [Int32.lt_iff_toInt_lt] at h1
      rw [Int32.le_iff_toInt_le] at h2
      have a : (0 : Int32).toInt = 0 := by decide
      have b : (8 : Int32).toInt = 8 := by decide
      omega

def mX0_walled (u : AS) (a0 : Int64) : Int64 := (mX1_greater (mX1_lesser a0 u.2.1) u.1)
set_option maxHeartbeats 4000000 in
set_option maxRecDepth 100000 in
theorem ct_X0_walled (l : Launch) (dC : Nat → ClassId) (dI : Nat → Nat → Nat) (x0 x1 : Nat) (k1 : ClassId) (sl : Int32) (u : AS) (a0 : Int64) : Met l yX0_walled wsX0_walled { frames := 2, cells := 0, slots := 0, locals := 44 } (pR (dC, dI) vwCl [(k1, .long)] (WA x0 x1 k1 sl u) [.ref x0, .long a0]) (k2_QcV (.long (mX0_walled u a0))) 0 0 (fun _ => False) := by
  refine Met.ofW (cc := cX0_walled) (maxL := 3) (ret := (some .long)) (by decide) rfl ?_
  intro p e s m args below meth c s₁ B hml hv
  obtain ⟨rfl, hP, hK, hNW⟩ := hv
  have hx := B.exec
  have hb := B.bytes
  have hr := B.returns
  have hts := atoms_spec (ws := wsX0_walled) B.pre
  have hown : s.vm.findClass RX0 = some m.cls := findClass_of_methodNamed B.named
  have hlocks := B.notSynchronized
  have hin0 : ∀ w ∈ wsX00, w ∈ wsX0_walled := by decide +kernel
  have hl := lv_entry ([.ref x0, .long a0]) (n := 3) (Nat.le_of_ble_eq_true rfl)
  rw [lg_entry_eq]
  generalize (lg_sl ([.ref x0, .long a0]) ++ List.replicate (3 - (lg_sl ([.ref x0, .long a0])).length) Slot.unset).toArray = ls at hl ⊢
  have hl : lv_has ls 3 [(0, .ref x0), (1, .long a0)] := hl
  refine lv_lload_n hx hb dX0_walled_0 rfl (lv_at hl 1 rfl) ?_
  refine lv_aload_n hx hb dX0_walled_1 rfl (lv_at hl 0 rfl) ?_
  refine va_get (D := (dC, dI)) (ci := 0) (v := .long u.2.1) (C := RX0) (T := TX0) (N := 5) hx hb hts hin0 hown hK hP 0 rfl rfl 3 (by decide) (hts (.fieldLink RX0 25 "SnapTable$Axis" "most" "J") (by decide +kernel)) (fun _ h9 => h9) rfl dX0_walled_2 ?_
  refine hc_S (As := [.long a0, .long u.2.1]) (rest := []) ⟨hx, hb, hml, hown, hts⟩ (ct_X1_lesser l a0 u.2.1) (va_cwS 2 hts gX0_walled_X1_lesser rfl rfl rfl (by decide +kernel) ⟨Nat.le_of_ble_eq_true rfl, Nat.le_of_ble_eq_true rfl⟩) rfl hl.1 rfl (Nat.le_of_ble_eq_true rfl) dX0_walled_5 ⟨Nat.le_of_ble_eq_true rfl, Nat.le_of_ble_eq_true rfl⟩ ?_
  refine lv_aload_n hx hb dX0_walled_8 rfl (lv_at hl 0 rfl) ?_
  refine va_get (D := (dC, dI)) (ci := 0) (v := .long u.1) (C := RX0) (T := TX0) (N := 5) hx hb hts hin0 hown hK hP 0 rfl rfl 2 (by decide) (hts (.fieldLink RX0 19 "SnapTable$Axis" "least" "J") (by decide +kernel)) (fun _ h9 => h9) rfl dX0_walled_9 ?_
  refine hc_S (As := [.long (mX1_lesser a0 u.2.1), .long u.1]) (rest := []) ⟨hx, hb, hml, hown, hts⟩ (ct_X1_greater l (mX1_lesser a0 u.2.1) u.1) (va_cwS 2 hts gX0_walled_X1_greater rfl rfl rfl (by decide +kernel) ⟨Nat.le_of_ble_eq_true rfl, Nat.le_of_ble_eq_true rfl⟩) rfl hl.1 rfl (Nat.le_of_ble_eq_true rfl) dX0_walled_12 ⟨Nat.le_of_ble_eq_true rfl, Nat.le_of_ble_eq_true rfl⟩ ?_
  exact W.lret (v := (mX1_greater (mX1_lesser a0 u.2.1) u.1)) hx hb hr (fun t ht _ => ⟨by rw [mX0_walled], ht⟩) (fun _ h => by cases h) dX0_walled_15

def mX0_outermost_L (u : AS) (a0 : Int32) : Nat → Int64 → Int32 → Int64
  | 0, _, _ => default
  | n + 1, v, i => (if (8 : Int32) ≤ i then v else (mX0_outermost_L u a0 n (mX1_outer v (u.2.2.2 i.toNatClampNeg) a0) (i + 1)))
def mX0_outermost (u : AS) (a0 : Int32) : Int64 := (mX0_outermost_L u a0 8 (u.2.2.2 (0 : Int32).toNatClampNeg) (1 : Int32))
set_option maxHeartbeats 4000000 in
set_option maxRecDepth 100000 in
theorem ct_X0_outermost (l : Launch) (dC : Nat → ClassId) (dI : Nat → Nat → Nat) (x0 x1 : Nat) (k1 : ClassId) (sl : Int32) (u : AS) (a0 : Int32) : Met l yX0_outermost wsX0_outermost { frames := 3, cells := 0, slots := 0, locals := 68 } (pR (dC, dI) vwCl [(k1, .long)] (WA x0 x1 k1 sl u) [.ref x0, .int a0]) (k2_QcV (.long (mX0_outermost u a0))) 0 0 (fun _ => False) := by
  refine Met.ofW (cc := cX0_outermost) (maxL := 5) (ret := (some .long)) (by decide) rfl ?_
  intro p e s m args below meth c s₁ B hml hv
  obtain ⟨rfl, hP, hK, hNW⟩ := hv
  have hx := B.exec
  have hb := B.bytes
  have hr := B.returns
  have hts := atoms_spec (ws := wsX0_outermost) B.pre
  have hown : s.vm.findClass RX0 = some m.cls := findClass_of_methodNamed B.named
  have hlocks := B.notSynchronized
  have hin0 : ∀ w ∈ wsX00, w ∈ wsX0_outermost := by decide +kernel
  have hl := lv_entry ([.ref x0, .int a0]) (n := 5) (Nat.le_of_ble_eq_true rfl)
  rw [lg_entry_eq]
  generalize (lg_sl ([.ref x0, .int a0]) ++ List.replicate (5 - (lg_sl ([.ref x0, .int a0])).length) Slot.unset).toArray = ls at hl ⊢
  have hl : lv_has ls 5 [(0, .ref x0), (1, .int a0)] := hl
  refine lv_aload_n hx hb dX0_outermost_0 rfl (lv_at hl 0 rfl) ?_
  refine va_get (D := (dC, dI)) (ci := 0) (v := .ref x1) (C := RX0) (T := TX0) (N := 5) hx hb hts hin0 hown hK hP 0 rfl rfl 1 (by decide) (hts (.fieldLink RX0 9 "SnapTable$Axis" "at" "[J") (by decide +kernel)) (fun _ h9 => h9) rfl dX0_outermost_1 ?_
  refine lv_iconst (v := (0 : Int32)) hx hb dX0_outermost_4 (by decide) ?_
  refine va_lald hx hb hK hP 1 0 rfl rfl (by first | with_reducible assumption | with_reducible exact pt_in (by with_reducible assumption) | with_reducible exact ptm_in (by with_reducible assumption) | exact LU.vin (B := 8) hm (by decide) (by with_reducible assumption) (by decide) | exact LU.vin (B := 4) hm (by decide) (by with_reducible assumption) (by decide) | exact LU.vin (B := 16) hm (by decide) (by with_reducible assumption) (by decide) | exact vp_in_nI (n := 0) (by decide) (by decide) | with_reducible exact gdm_in (by with_reducible assumption) (by with_reducible assumption) | with_reducible exact gd_in (by with_reducible assumption) (by with_reducible assumption)) dX0_outermost_5 ?_
  refine lv_lstore_n (lv' := [(2, .long (u.2.2.2 (0 : Int32).toNatClampNeg)), (0, .ref x0), (1, .int a0)]) hx hb dX0_outermost_6 rfl hl (by decide) rfl (fun ls hl => ?_)
  refine lv_iconst (v := (1 : Int32)) hx hb dX0_outermost_7 (by decide) ?_
  refine lv_istore (lv' := [(4, .int (1 : Int32)), (2, .long (u.2.2.2 (0 : Int32).toNatClampNeg)), (0, .ref x0), (1, .int a0)]) hx hb dX0_outermost_8 hl (by decide) rfl (fun ls hl => ?_)
  have loop : ∀ (n : Nat) (v : Int64) (i : Int32) (ls : Array Slot), LU 8 n i → mX0_outermost_L u a0 n v i = mX0_outermost u a0 → lv_has ls 5 [(2, .long v), (4, .int i), (0, .ref x0), (1, .int a0)] → W p l e (headSpec wsX0_outermost { frames := 3, cells := 0, slots := 0, locals := 68 }).room s m ([.ref x0, .int a0] : List Value).toArray below meth c s.heap [] 0 0 (MQ below (k2_QcV (.long (mX0_outermost u a0))) ([.ref x0, .int a0] : List Value).toArray s 0 0 (fun _ => False)) (F0 m 10 ls []) := by
    intro n
    induction n with
    | zero => intro v i ls hm; exact absurd hm (fun h => h.z)
    | succ n ih =>
      intro v i ls hm  heq hl
      refine lv_iload hx hb dX0_outermost_10 (lv_at hl 1 rfl) ?_
      refine lv_bipush (v := (8 : Int32)) hx hb dX0_outermost_12 (by decide) ?_
      refine lv_icmp_ge (tgt := 36) hx hb dX0_outermost_14 (by decide) (fun c_1 => ?_) (fun c_1 => ?_)
      · refine lv_lload_n hx hb dX0_outermost_36 rfl (lv_at hl 0 rfl) ?_
        exact W.lret (v := v) hx hb hr (fun t ht _ => ⟨by rw [← heq, mX0_outermost_L, if_pos c_1], ht⟩) (fun _ h => by cases h) dX0_outermost_37
      · refine lv_lload_n hx hb dX0_outermost_17 rfl (lv_at hl 0 rfl) ?_
        refine lv_aload_n hx hb dX0_outermost_18 rfl (lv_at hl 2 rfl) ?_
        refine va_get (D := (dC, dI)) (ci := 0) (v := .ref x1) (C := RX0) (T := TX0) (N := 5) hx hb hts hin0 hown hK hP 0 rfl rfl 1 (by decide) (hts (.fieldLink RX0 9 "SnapTable$Axis" "at" "[J") (by decide +kernel)) (fun _ h9 => h9) rfl dX0_outermost_19 ?_
        refine lv_iload hx hb dX0_outermost_22 (lv_at hl 1 rfl) ?_
        refine va_lald hx hb hK hP 1 0 rfl rfl (by first | with_reducible assumption | with_reducible exact pt_in (by with_reducible assumption) | with_reducible exact ptm_in (by with_reducible assumption) | exact LU.vin (B := 8) hm (by decide) (by with_reducible assumption) (by decide) | exact LU.vin (B := 4) hm (by decide) (by with_reducible assumption) (by decide) | exact LU.vin (B := 16) hm (by decide) (by with_reducible assumption) (by decide) | exact vp_in_nI (n := 0) (by decide) (by decide) | with_reducible exact gdm_in (by with_reducible assumption) (by with_reducible assumption) | with_reducible exact gd_in (by with_reducible assumption) (by with_reducible assumption)) dX0_outermost_24 ?_
        refine lv_iload_n hx hb dX0_outermost_25 rfl (lv_at hl 3 rfl) ?_
        refine hc_S (As := [.long v, .long (u.2.2.2 i.toNatClampNeg), .int a0]) (rest := []) ⟨hx, hb, hml, hown, hts⟩ (ct_X1_outer l v (u.2.2.2 i.toNatClampNeg) a0) (va_cwS 3 hts gX0_outermost_X1_outer rfl rfl rfl (by decide +kernel) ⟨Nat.le_of_ble_eq_true rfl, Nat.le_of_ble_eq_true rfl⟩) rfl hl.1 rfl (Nat.le_of_ble_eq_true rfl) dX0_outermost_26 ⟨Nat.le_of_ble_eq_true rfl, Nat.le_of_ble_eq_true rfl⟩ ?_
        refine lv_lstore_n (lv' := [(2, .long (mX1_outer v (u.2.2.2 i.toNatClampNeg) a0)), (4, .int i), (0, .ref x0), (1, .int a0)]) hx hb dX0_outermost_29 rfl hl (by decide) rfl (fun ls hl => ?_)
        refine lv_iinc (v := (i + 1)) (lv' := [(4, .int (i + 1)), (2, .long (mX1_outer v (u.2.2.2 i.toNatClampNeg) a0)), (0, .ref x0), (1, .int a0)]) hx hb dX0_outermost_30 hl (k := 1) rfl rfl (by decide) rfl (fun ls hl => ?_)
        refine lv_goto (tgt := 10) hx hb dX0_outermost_33 (by decide) ?_
        exact ih (mX1_outer v (u.2.2.2 i.toNatClampNeg) a0) (i + 1) ls (LU.up (B := 8) (by decide) hm (by with_reducible assumption))  (by rw [← heq, mX0_outermost_L, if_neg c_1]) (lv_sub hl [1, 0, 2, 3] rfl)
  exact loop 8 (u.2.2.2 (0 : Int32).toNatClampNeg) (1 : Int32) ls (by unfold LU; decide)  (by rw [mX0_outermost]) (lv_sub hl [1, 0, 2, 3] rfl)

def mX0_sum_w (u : AS) (a0 : Int64) (a1 : Int64) : Int64 := (if (Op.cmpValue (FP.dcmp (FP.dadd (mX1_value a0) (mX1_value a1)) FP.dconst0) .l) = 0 then ((a0 &&& a1) &&& (-9223372036854775808 : Int64)) else (mX1_of (FP.dadd (mX1_value a0) (mX1_value a1))))
set_option maxHeartbeats 4000000 in
set_option maxRecDepth 100000 in
theorem ct_X0_sum_w (l : Launch) (dC : Nat → ClassId) (dI : Nat → Nat → Nat) (x0 x1 : Nat) (k1 : ClassId) (u : AS) (a0 : Int64) (a1 : Int64) (hd : FP.dIsNaN (FP.dadd (mX1_value a0) (mX1_value a1)) = false) : Met l yX0_sum wsX0_sum { frames := 4, cells := 0, slots := 0, locals := 93 } (pR (dC, dI) vwCl [(k1, .long)] (WA x0 x1 k1 0 u) [.ref x0, .long a0, .long a1]) (k2_QcV (.long (mX0_sum_w u a0 a1))) 0 0 (fun _ => False) := by
  refine Met.ofW (cc := cX0_sum) (maxL := 11) (ret := (some .long)) (by decide) rfl ?_
  intro p e s m args below meth c s₁ B hml hv
  obtain ⟨rfl, hP, hK, hNW⟩ := hv
  have hx := B.exec
  have hb := B.bytes
  have hr := B.returns
  have hts := atoms_spec (ws := wsX0_sum) B.pre
  have hown : s.vm.findClass RX0 = some m.cls := findClass_of_methodNamed B.named
  have hlocks := B.notSynchronized
  have hin0 : ∀ w ∈ wsX00, w ∈ wsX0_sum := by decide +kernel
  have hl := lv_entry ([.ref x0, .long a0, .long a1]) (n := 11) (Nat.le_of_ble_eq_true rfl)
  rw [lg_entry_eq]
  generalize (lg_sl ([.ref x0, .long a0, .long a1]) ++ List.replicate (11 - (lg_sl ([.ref x0, .long a0, .long a1])).length) Slot.unset).toArray = ls at hl ⊢
  have hl : lv_has ls 11 [(0, .ref x0), (1, .long a0), (3, .long a1)] := hl
  refine lv_lload_n hx hb dX0_sum_0 rfl (lv_at hl 1 rfl) ?_
  refine hc_S (As := [.long a0]) (rest := []) ⟨hx, hb, hml, hown, hts⟩ (ct_X1_value l a0) (va_cwS 1 hts gX0_sum_X1_value rfl rfl rfl (by decide +kernel) ⟨Nat.le_of_ble_eq_true rfl, Nat.le_of_ble_eq_true rfl⟩) rfl hl.1 rfl (Nat.le_of_ble_eq_true rfl) dX0_sum_1 ⟨Nat.le_of_ble_eq_true rfl, Nat.le_of_ble_eq_true rfl⟩ ?_
  refine lv_dstore (lv' := [(5, .double (mX1_value a0)), (0, .ref x0), (1, .long a0), (3, .long a1)]) hx hb dX0_sum_4 hl (by decide) rfl (fun ls hl => ?_)
  refine lv_lload_n hx hb dX0_sum_6 rfl (lv_at hl 3 rfl) ?_
  refine hc_S (As := [.long a1]) (rest := []) ⟨hx, hb, hml, hown, hts⟩ (ct_X1_value l a1) (va_cwS 1 hts gX0_sum_X1_value rfl rfl rfl (by decide +kernel) ⟨Nat.le_of_ble_eq_true rfl, Nat.le_of_ble_eq_true rfl⟩) rfl hl.1 rfl (Nat.le_of_ble_eq_true rfl) dX0_sum_7 ⟨Nat.le_of_ble_eq_true rfl, Nat.le_of_ble_eq_true rfl⟩ ?_
  refine lv_dstore (lv' := [(7, .double (mX1_value a1)), (5, .double (mX1_value a0)), (0, .ref x0), (1, .long a0), (3, .long a1)]) hx hb dX0_sum_10 hl (by decide) rfl (fun ls hl => ?_)
  refine lv_aload_n hx hb dX0_sum_12 rfl (lv_at hl 2 rfl) ?_
  refine va_get (D := (dC, dI)) (ci := 0) (v := .int (0 : Int32)) (C := RX0) (T := TX0) (N := 5) hx hb hts hin0 hown hK hP 0 rfl rfl 0 (by decide) (hts (.fieldLink RX0 33 "SnapTable$Axis" "slim" "Z") (by decide +kernel)) (fun _ h9 => h9) rfl dX0_sum_13 ?_
  refine lv_if_eq (tgt := 30) hx hb dX0_sum_16 (by decide) (fun c_1 => ?_) (fun c_1 => ?_)
  · refine lv_dload hx hb dX0_sum_30 (lv_at hl 1 rfl) ?_
    refine lv_dload hx hb dX0_sum_32 (lv_at hl 0 rfl) ?_
    refine lv_dadd hx hb dX0_sum_34 (nn64 (by first | with_reducible assumption | with_reducible exact dn_d2f (value_nn _) | with_reducible exact dn_d2f (vos_nn _) | with_reducible exact dn_f2d (by with_reducible assumption))) ?_
    refine lv_dstore (lv' := [(9, .double (FP.dadd (mX1_value a0) (mX1_value a1))), (7, .double (mX1_value a1)), (5, .double (mX1_value a0)), (0, .ref x0), (1, .long a0), (3, .long a1)]) hx hb dX0_sum_35 hl (by decide) rfl (fun ls hl => ?_)
    refine lv_dload hx hb dX0_sum_37 (lv_at hl 0 rfl) ?_
    refine lv_dconst0 hx hb dX0_sum_39 ?_
    refine lv_dcmp hx hb dX0_sum_40 ?_
    refine lv_if_ne (tgt := 54) hx hb dX0_sum_41 (by decide) (fun c_2 => ?_) (fun c_2 => ?_)
    · refine lv_dload hx hb dX0_sum_54 (lv_at hl 0 rfl) ?_
      refine hc_S (As := [.double (FP.dadd (mX1_value a0) (mX1_value a1))]) (rest := []) ⟨hx, hb, hml, hown, hts⟩ (ct_X1_of l (FP.dadd (mX1_value a0) (mX1_value a1)) (by first | with_reducible assumption | with_reducible exact dn_f2d (by with_reducible assumption))) (va_cwS 1 hts gX0_sum_X1_of rfl rfl rfl (by decide +kernel) ⟨Nat.le_of_ble_eq_true rfl, Nat.le_of_ble_eq_true rfl⟩) rfl hl.1 rfl (Nat.le_of_ble_eq_true rfl) dX0_sum_56 ⟨Nat.le_of_ble_eq_true rfl, Nat.le_of_ble_eq_true rfl⟩ ?_
      exact W.lret (v := (mX1_of (FP.dadd (mX1_value a0) (mX1_value a1)))) hx hb hr (fun t ht _ => ⟨by rw [mX0_sum_w, if_neg c_2], ht⟩) (fun _ h => by cases h) dX0_sum_59
    · refine lv_lload_n hx hb dX0_sum_44 rfl (lv_at hl 4 rfl) ?_
      refine lv_lload_n hx hb dX0_sum_45 rfl (lv_at hl 5 rfl) ?_
      refine lv_land hx hb dX0_sum_46 ?_
      refine lv_ldc2 (v := (-9223372036854775808 : Int64)) hx hb hown (hts (.constantLong RX0 52 (-9223372036854775808)) (by decide +kernel)) dX0_sum_47 ?_
      refine lv_land hx hb dX0_sum_50 ?_
      refine lv_goto (tgt := 59) hx hb dX0_sum_51 (by decide) ?_
      exact W.lret (v := ((a0 &&& a1) &&& (-9223372036854775808 : Int64))) hx hb hr (fun t ht _ => ⟨by rw [mX0_sum_w, if_pos c_2], ht⟩) (fun _ h => by cases h) dX0_sum_59
  · exact absurd c_1 (by decide)

def mX0_sum_h (u : AS) (a0 : Int64) (a1 : Int64) : Int64 := (if (Op.cmpValue (FP.dcmp (FP.f2d (FP.fadd (FP.d2f (mX1_value a0)) (FP.d2f (mX1_value a1)))) FP.dconst0) .l) = 0 then ((a0 &&& a1) &&& (-9223372036854775808 : Int64)) else (mX1_of (FP.f2d (FP.fadd (FP.d2f (mX1_value a0)) (FP.d2f (mX1_value a1))))))
set_option maxHeartbeats 4000000 in
set_option maxRecDepth 100000 in
theorem ct_X0_sum_h (l : Launch) (dC : Nat → ClassId) (dI : Nat → Nat → Nat) (x0 x1 : Nat) (k1 : ClassId) (u : AS) (a0 : Int64) (a1 : Int64) (hd : FP.fIsNaN (FP.fadd (FP.d2f (mX1_value a0)) (FP.d2f (mX1_value a1))) = false) : Met l yX0_sum wsX0_sum { frames := 4, cells := 0, slots := 0, locals := 93 } (pR (dC, dI) vwCl [(k1, .long)] (WA x0 x1 k1 1 u) [.ref x0, .long a0, .long a1]) (k2_QcV (.long (mX0_sum_h u a0 a1))) 0 0 (fun _ => False) := by
  refine Met.ofW (cc := cX0_sum) (maxL := 11) (ret := (some .long)) (by decide) rfl ?_
  intro p e s m args below meth c s₁ B hml hv
  obtain ⟨rfl, hP, hK, hNW⟩ := hv
  have hx := B.exec
  have hb := B.bytes
  have hr := B.returns
  have hts := atoms_spec (ws := wsX0_sum) B.pre
  have hown : s.vm.findClass RX0 = some m.cls := findClass_of_methodNamed B.named
  have hlocks := B.notSynchronized
  have hin0 : ∀ w ∈ wsX00, w ∈ wsX0_sum := by decide +kernel
  have hl := lv_entry ([.ref x0, .long a0, .long a1]) (n := 11) (Nat.le_of_ble_eq_true rfl)
  rw [lg_entry_eq]
  generalize (lg_sl ([.ref x0, .long a0, .long a1]) ++ List.replicate (11 - (lg_sl ([.ref x0, .long a0, .long a1])).length) Slot.unset).toArray = ls at hl ⊢
  have hl : lv_has ls 11 [(0, .ref x0), (1, .long a0), (3, .long a1)] := hl
  refine lv_lload_n hx hb dX0_sum_0 rfl (lv_at hl 1 rfl) ?_
  refine hc_S (As := [.long a0]) (rest := []) ⟨hx, hb, hml, hown, hts⟩ (ct_X1_value l a0) (va_cwS 1 hts gX0_sum_X1_value rfl rfl rfl (by decide +kernel) ⟨Nat.le_of_ble_eq_true rfl, Nat.le_of_ble_eq_true rfl⟩) rfl hl.1 rfl (Nat.le_of_ble_eq_true rfl) dX0_sum_1 ⟨Nat.le_of_ble_eq_true rfl, Nat.le_of_ble_eq_true rfl⟩ ?_
  refine lv_dstore (lv' := [(5, .double (mX1_value a0)), (0, .ref x0), (1, .long a0), (3, .long a1)]) hx hb dX0_sum_4 hl (by decide) rfl (fun ls hl => ?_)
  refine lv_lload_n hx hb dX0_sum_6 rfl (lv_at hl 3 rfl) ?_
  refine hc_S (As := [.long a1]) (rest := []) ⟨hx, hb, hml, hown, hts⟩ (ct_X1_value l a1) (va_cwS 1 hts gX0_sum_X1_value rfl rfl rfl (by decide +kernel) ⟨Nat.le_of_ble_eq_true rfl, Nat.le_of_ble_eq_true rfl⟩) rfl hl.1 rfl (Nat.le_of_ble_eq_true rfl) dX0_sum_7 ⟨Nat.le_of_ble_eq_true rfl, Nat.le_of_ble_eq_true rfl⟩ ?_
  refine lv_dstore (lv' := [(7, .double (mX1_value a1)), (5, .double (mX1_value a0)), (0, .ref x0), (1, .long a0), (3, .long a1)]) hx hb dX0_sum_10 hl (by decide) rfl (fun ls hl => ?_)
  refine lv_aload_n hx hb dX0_sum_12 rfl (lv_at hl 2 rfl) ?_
  refine va_get (D := (dC, dI)) (ci := 0) (v := .int (1 : Int32)) (C := RX0) (T := TX0) (N := 5) hx hb hts hin0 hown hK hP 0 rfl rfl 0 (by decide) (hts (.fieldLink RX0 33 "SnapTable$Axis" "slim" "Z") (by decide +kernel)) (fun _ h9 => h9) rfl dX0_sum_13 ?_
  refine lv_if_eq (tgt := 30) hx hb dX0_sum_16 (by decide) (fun c_1 => ?_) (fun c_1 => ?_)
  · exact absurd c_1 (by decide)
  · refine lv_dload hx hb dX0_sum_19 (lv_at hl 1 rfl) ?_
    refine lv_d2f hx hb dX0_sum_21 (nn32 (by first | with_reducible assumption | with_reducible exact dn_d2f (value_nn _) | with_reducible exact dn_d2f (vos_nn _) | with_reducible exact dn_f2d (by with_reducible assumption))) ?_
    refine lv_dload hx hb dX0_sum_22 (lv_at hl 0 rfl) ?_
    refine lv_d2f hx hb dX0_sum_24 (nn32 (by first | with_reducible assumption | with_reducible exact dn_d2f (value_nn _) | with_reducible exact dn_d2f (vos_nn _) | with_reducible exact dn_f2d (by with_reducible assumption))) ?_
    refine lv_fadd hx hb dX0_sum_25 (nn32 (by first | with_reducible assumption | with_reducible exact dn_d2f (value_nn _) | with_reducible exact dn_d2f (vos_nn _) | with_reducible exact dn_f2d (by with_reducible assumption))) ?_
    refine lv_f2d hx hb dX0_sum_26 (nn64 (by first | with_reducible assumption | with_reducible exact dn_d2f (value_nn _) | with_reducible exact dn_d2f (vos_nn _) | with_reducible exact dn_f2d (by with_reducible assumption))) ?_
    refine lv_goto (tgt := 35) hx hb dX0_sum_27 (by decide) ?_
    refine lv_dstore (lv' := [(9, .double (FP.f2d (FP.fadd (FP.d2f (mX1_value a0)) (FP.d2f (mX1_value a1))))), (7, .double (mX1_value a1)), (5, .double (mX1_value a0)), (0, .ref x0), (1, .long a0), (3, .long a1)]) hx hb dX0_sum_35 hl (by decide) rfl (fun ls hl => ?_)
    refine lv_dload hx hb dX0_sum_37 (lv_at hl 0 rfl) ?_
    refine lv_dconst0 hx hb dX0_sum_39 ?_
    refine lv_dcmp hx hb dX0_sum_40 ?_
    refine lv_if_ne (tgt := 54) hx hb dX0_sum_41 (by decide) (fun c_2 => ?_) (fun c_2 => ?_)
    · refine lv_dload hx hb dX0_sum_54 (lv_at hl 0 rfl) ?_
      refine hc_S (As := [.double (FP.f2d (FP.fadd (FP.d2f (mX1_value a0)) (FP.d2f (mX1_value a1))))]) (rest := []) ⟨hx, hb, hml, hown, hts⟩ (ct_X1_of l (FP.f2d (FP.fadd (FP.d2f (mX1_value a0)) (FP.d2f (mX1_value a1)))) (by first | with_reducible assumption | with_reducible exact dn_f2d (by with_reducible assumption))) (va_cwS 1 hts gX0_sum_X1_of rfl rfl rfl (by decide +kernel) ⟨Nat.le_of_ble_eq_true rfl, Nat.le_of_ble_eq_true rfl⟩) rfl hl.1 rfl (Nat.le_of_ble_eq_true rfl) dX0_sum_56 ⟨Nat.le_of_ble_eq_true rfl, Nat.le_of_ble_eq_true rfl⟩ ?_
      exact W.lret (v := (mX1_of (FP.f2d (FP.fadd (FP.d2f (mX1_value a0)) (FP.d2f (mX1_value a1)))))) hx hb hr (fun t ht _ => ⟨by rw [mX0_sum_h, if_neg c_2], ht⟩) (fun _ h => by cases h) dX0_sum_59
    · refine lv_lload_n hx hb dX0_sum_44 rfl (lv_at hl 4 rfl) ?_
      refine lv_lload_n hx hb dX0_sum_45 rfl (lv_at hl 5 rfl) ?_
      refine lv_land hx hb dX0_sum_46 ?_
      refine lv_ldc2 (v := (-9223372036854775808 : Int64)) hx hb hown (hts (.constantLong RX0 52 (-9223372036854775808)) (by decide +kernel)) dX0_sum_47 ?_
      refine lv_land hx hb dX0_sum_50 ?_
      refine lv_goto (tgt := 59) hx hb dX0_sum_51 (by decide) ?_
      exact W.lret (v := ((a0 &&& a1) &&& (-9223372036854775808 : Int64))) hx hb hr (fun t ht _ => ⟨by rw [mX0_sum_h, if_pos c_2], ht⟩) (fun _ h => by cases h) dX0_sum_59

def mX0_apart_w (u : AS) (a0 : Int64) (a1 : Int64) : UInt64 := (if 0 ≤ (Op.cmpValue (FP.dcmp (FP.dsub (mX1_value a0) (mX1_value a1)) FP.dconst0) .g) then (FP.dsub (mX1_value a0) (mX1_value a1)) else (FP.dneg (FP.dsub (mX1_value a0) (mX1_value a1))))
set_option maxHeartbeats 4000000 in
set_option maxRecDepth 100000 in
theorem ct_X0_apart_w (l : Launch) (dC : Nat → ClassId) (dI : Nat → Nat → Nat) (x0 x1 : Nat) (k1 : ClassId) (u : AS) (a0 : Int64) (a1 : Int64) (hd : FP.dIsNaN (FP.dsub (mX1_value a0) (mX1_value a1)) = false) : Met l yX0_apart wsX0_apart { frames := 4, cells := 0, slots := 0, locals := 93 } (pR (dC, dI) vwCl [(k1, .long)] (WA x0 x1 k1 0 u) [.ref x0, .long a0, .long a1]) (k2_QcV (.double (mX0_apart_w u a0 a1))) 0 0 (fun _ => False) := by
  refine Met.ofW (cc := cX0_apart) (maxL := 11) (ret := (some .double)) (by decide) rfl ?_
  intro p e s m args below meth c s₁ B hml hv
  obtain ⟨rfl, hP, hK, hNW⟩ := hv
  have hx := B.exec
  have hb := B.bytes
  have hr := B.returns
  have hts := atoms_spec (ws := wsX0_apart) B.pre
  have hown : s.vm.findClass RX0 = some m.cls := findClass_of_methodNamed B.named
  have hlocks := B.notSynchronized
  have hin0 : ∀ w ∈ wsX00, w ∈ wsX0_apart := by decide +kernel
  have hl := lv_entry ([.ref x0, .long a0, .long a1]) (n := 11) (Nat.le_of_ble_eq_true rfl)
  rw [lg_entry_eq]
  generalize (lg_sl ([.ref x0, .long a0, .long a1]) ++ List.replicate (11 - (lg_sl ([.ref x0, .long a0, .long a1])).length) Slot.unset).toArray = ls at hl ⊢
  have hl : lv_has ls 11 [(0, .ref x0), (1, .long a0), (3, .long a1)] := hl
  refine lv_lload_n hx hb dX0_apart_0 rfl (lv_at hl 1 rfl) ?_
  refine hc_S (As := [.long a0]) (rest := []) ⟨hx, hb, hml, hown, hts⟩ (ct_X1_value l a0) (va_cwS 1 hts gX0_apart_X1_value rfl rfl rfl (by decide +kernel) ⟨Nat.le_of_ble_eq_true rfl, Nat.le_of_ble_eq_true rfl⟩) rfl hl.1 rfl (Nat.le_of_ble_eq_true rfl) dX0_apart_1 ⟨Nat.le_of_ble_eq_true rfl, Nat.le_of_ble_eq_true rfl⟩ ?_
  refine lv_dstore (lv' := [(5, .double (mX1_value a0)), (0, .ref x0), (1, .long a0), (3, .long a1)]) hx hb dX0_apart_4 hl (by decide) rfl (fun ls hl => ?_)
  refine lv_lload_n hx hb dX0_apart_6 rfl (lv_at hl 3 rfl) ?_
  refine hc_S (As := [.long a1]) (rest := []) ⟨hx, hb, hml, hown, hts⟩ (ct_X1_value l a1) (va_cwS 1 hts gX0_apart_X1_value rfl rfl rfl (by decide +kernel) ⟨Nat.le_of_ble_eq_true rfl, Nat.le_of_ble_eq_true rfl⟩) rfl hl.1 rfl (Nat.le_of_ble_eq_true rfl) dX0_apart_7 ⟨Nat.le_of_ble_eq_true rfl, Nat.le_of_ble_eq_true rfl⟩ ?_
  refine lv_dstore (lv' := [(7, .double (mX1_value a1)), (5, .double (mX1_value a0)), (0, .ref x0), (1, .long a0), (3, .long a1)]) hx hb dX0_apart_10 hl (by decide) rfl (fun ls hl => ?_)
  refine lv_aload_n hx hb dX0_apart_12 rfl (lv_at hl 2 rfl) ?_
  refine va_get (D := (dC, dI)) (ci := 0) (v := .int (0 : Int32)) (C := RX0) (T := TX0) (N := 5) hx hb hts hin0 hown hK hP 0 rfl rfl 0 (by decide) (hts (.fieldLink RX0 33 "SnapTable$Axis" "slim" "Z") (by decide +kernel)) (fun _ h9 => h9) rfl dX0_apart_13 ?_
  refine lv_if_eq (tgt := 30) hx hb dX0_apart_16 (by decide) (fun c_1 => ?_) (fun c_1 => ?_)
  · refine lv_dload hx hb dX0_apart_30 (lv_at hl 1 rfl) ?_
    refine lv_dload hx hb dX0_apart_32 (lv_at hl 0 rfl) ?_
    refine lv_dsub hx hb dX0_apart_34 (nn64 (by first | with_reducible assumption | with_reducible exact dn_d2f (value_nn _) | with_reducible exact dn_d2f (vos_nn _) | with_reducible exact dn_f2d (by with_reducible assumption))) ?_
    refine lv_dstore (lv' := [(9, .double (FP.dsub (mX1_value a0) (mX1_value a1))), (7, .double (mX1_value a1)), (5, .double (mX1_value a0)), (0, .ref x0), (1, .long a0), (3, .long a1)]) hx hb dX0_apart_35 hl (by decide) rfl (fun ls hl => ?_)
    refine lv_dload hx hb dX0_apart_37 (lv_at hl 0 rfl) ?_
    refine lv_dconst0 hx hb dX0_apart_39 ?_
    refine lv_dcmp hx hb dX0_apart_40 ?_
    refine lv_if_ge (tgt := 50) hx hb dX0_apart_41 (by decide) (fun c_2 => ?_) (fun c_2 => ?_)
    · refine lv_dload hx hb dX0_apart_50 (lv_at hl 0 rfl) ?_
      exact W.dret (v := (FP.dsub (mX1_value a0) (mX1_value a1))) hx hb hr (fun t ht _ => ⟨by rw [mX0_apart_w, if_pos c_2], ht⟩) (fun _ h => by cases h) dX0_apart_52
    · refine lv_dload hx hb dX0_apart_44 (lv_at hl 0 rfl) ?_
      refine lv_dneg hx hb dX0_apart_46 ?_
      refine lv_goto (tgt := 52) hx hb dX0_apart_47 (by decide) ?_
      exact W.dret (v := (FP.dneg (FP.dsub (mX1_value a0) (mX1_value a1)))) hx hb hr (fun t ht _ => ⟨by rw [mX0_apart_w, if_neg c_2], ht⟩) (fun _ h => by cases h) dX0_apart_52
  · exact absurd c_1 (by decide)

def mX0_apart_h (u : AS) (a0 : Int64) (a1 : Int64) : UInt64 := (if 0 ≤ (Op.cmpValue (FP.dcmp (FP.f2d (FP.fsub (FP.d2f (mX1_value a0)) (FP.d2f (mX1_value a1)))) FP.dconst0) .g) then (FP.f2d (FP.fsub (FP.d2f (mX1_value a0)) (FP.d2f (mX1_value a1)))) else (FP.dneg (FP.f2d (FP.fsub (FP.d2f (mX1_value a0)) (FP.d2f (mX1_value a1))))))
set_option maxHeartbeats 4000000 in
set_option maxRecDepth 100000 in
theorem ct_X0_apart_h (l : Launch) (dC : Nat → ClassId) (dI : Nat → Nat → Nat) (x0 x1 : Nat) (k1 : ClassId) (u : AS) (a0 : Int64) (a1 : Int64) (hd : FP.fIsNaN (FP.fsub (FP.d2f (mX1_value a0)) (FP.d2f (mX1_value a1))) = false) : Met l yX0_apart wsX0_apart { frames := 4, cells := 0, slots := 0, locals := 93 } (pR (dC, dI) vwCl [(k1, .long)] (WA x0 x1 k1 1 u) [.ref x0, .long a0, .long a1]) (k2_QcV (.double (mX0_apart_h u a0 a1))) 0 0 (fun _ => False) := by
  refine Met.ofW (cc := cX0_apart) (maxL := 11) (ret := (some .double)) (by decide) rfl ?_
  intro p e s m args below meth c s₁ B hml hv
  obtain ⟨rfl, hP, hK, hNW⟩ := hv
  have hx := B.exec
  have hb := B.bytes
  have hr := B.returns
  have hts := atoms_spec (ws := wsX0_apart) B.pre
  have hown : s.vm.findClass RX0 = some m.cls := findClass_of_methodNamed B.named
  have hlocks := B.notSynchronized
  have hin0 : ∀ w ∈ wsX00, w ∈ wsX0_apart := by decide +kernel
  have hl := lv_entry ([.ref x0, .long a0, .long a1]) (n := 11) (Nat.le_of_ble_eq_true rfl)
  rw [lg_entry_eq]
  generalize (lg_sl ([.ref x0, .long a0, .long a1]) ++ List.replicate (11 - (lg_sl ([.ref x0, .long a0, .long a1])).length) Slot.unset).toArray = ls at hl ⊢
  have hl : lv_has ls 11 [(0, .ref x0), (1, .long a0), (3, .long a1)] := hl
  refine lv_lload_n hx hb dX0_apart_0 rfl (lv_at hl 1 rfl) ?_
  refine hc_S (As := [.long a0]) (rest := []) ⟨hx, hb, hml, hown, hts⟩ (ct_X1_value l a0) (va_cwS 1 hts gX0_apart_X1_value rfl rfl rfl (by decide +kernel) ⟨Nat.le_of_ble_eq_true rfl, Nat.le_of_ble_eq_true rfl⟩) rfl hl.1 rfl (Nat.le_of_ble_eq_true rfl) dX0_apart_1 ⟨Nat.le_of_ble_eq_true rfl, Nat.le_of_ble_eq_true rfl⟩ ?_
  refine lv_dstore (lv' := [(5, .double (mX1_value a0)), (0, .ref x0), (1, .long a0), (3, .long a1)]) hx hb dX0_apart_4 hl (by decide) rfl (fun ls hl => ?_)
  refine lv_lload_n hx hb dX0_apart_6 rfl (lv_at hl 3 rfl) ?_
  refine hc_S (As := [.long a1]) (rest := []) ⟨hx, hb, hml, hown, hts⟩ (ct_X1_value l a1) (va_cwS 1 hts gX0_apart_X1_value rfl rfl rfl (by decide +kernel) ⟨Nat.le_of_ble_eq_true rfl, Nat.le_of_ble_eq_true rfl⟩) rfl hl.1 rfl (Nat.le_of_ble_eq_true rfl) dX0_apart_7 ⟨Nat.le_of_ble_eq_true rfl, Nat.le_of_ble_eq_true rfl⟩ ?_
  refine lv_dstore (lv' := [(7, .double (mX1_value a1)), (5, .double (mX1_value a0)), (0, .ref x0), (1, .long a0), (3, .long a1)]) hx hb dX0_apart_10 hl (by decide) rfl (fun ls hl => ?_)
  refine lv_aload_n hx hb dX0_apart_12 rfl (lv_at hl 2 rfl) ?_
  refine va_get (D := (dC, dI)) (ci := 0) (v := .int (1 : Int32)) (C := RX0) (T := TX0) (N := 5) hx hb hts hin0 hown hK hP 0 rfl rfl 0 (by decide) (hts (.fieldLink RX0 33 "SnapTable$Axis" "slim" "Z") (by decide +kernel)) (fun _ h9 => h9) rfl dX0_apart_13 ?_
  refine lv_if_eq (tgt := 30) hx hb dX0_apart_16 (by decide) (fun c_1 => ?_) (fun c_1 => ?_)
  · exact absurd c_1 (by decide)
  · refine lv_dload hx hb dX0_apart_19 (lv_at hl 1 rfl) ?_
    refine lv_d2f hx hb dX0_apart_21 (nn32 (by first | with_reducible assumption | with_reducible exact dn_d2f (value_nn _) | with_reducible exact dn_d2f (vos_nn _) | with_reducible exact dn_f2d (by with_reducible assumption))) ?_
    refine lv_dload hx hb dX0_apart_22 (lv_at hl 0 rfl) ?_
    refine lv_d2f hx hb dX0_apart_24 (nn32 (by first | with_reducible assumption | with_reducible exact dn_d2f (value_nn _) | with_reducible exact dn_d2f (vos_nn _) | with_reducible exact dn_f2d (by with_reducible assumption))) ?_
    refine lv_fsub hx hb dX0_apart_25 (nn32 (by first | with_reducible assumption | with_reducible exact dn_d2f (value_nn _) | with_reducible exact dn_d2f (vos_nn _) | with_reducible exact dn_f2d (by with_reducible assumption))) ?_
    refine lv_f2d hx hb dX0_apart_26 (nn64 (by first | with_reducible assumption | with_reducible exact dn_d2f (value_nn _) | with_reducible exact dn_d2f (vos_nn _) | with_reducible exact dn_f2d (by with_reducible assumption))) ?_
    refine lv_goto (tgt := 35) hx hb dX0_apart_27 (by decide) ?_
    refine lv_dstore (lv' := [(9, .double (FP.f2d (FP.fsub (FP.d2f (mX1_value a0)) (FP.d2f (mX1_value a1))))), (7, .double (mX1_value a1)), (5, .double (mX1_value a0)), (0, .ref x0), (1, .long a0), (3, .long a1)]) hx hb dX0_apart_35 hl (by decide) rfl (fun ls hl => ?_)
    refine lv_dload hx hb dX0_apart_37 (lv_at hl 0 rfl) ?_
    refine lv_dconst0 hx hb dX0_apart_39 ?_
    refine lv_dcmp hx hb dX0_apart_40 ?_
    refine lv_if_ge (tgt := 50) hx hb dX0_apart_41 (by decide) (fun c_2 => ?_) (fun c_2 => ?_)
    · refine lv_dload hx hb dX0_apart_50 (lv_at hl 0 rfl) ?_
      exact W.dret (v := (FP.f2d (FP.fsub (FP.d2f (mX1_value a0)) (FP.d2f (mX1_value a1))))) hx hb hr (fun t ht _ => ⟨by rw [mX0_apart_h, if_pos c_2], ht⟩) (fun _ h => by cases h) dX0_apart_52
    · refine lv_dload hx hb dX0_apart_44 (lv_at hl 0 rfl) ?_
      refine lv_dneg hx hb dX0_apart_46 ?_
      refine lv_goto (tgt := 52) hx hb dX0_apart_47 (by decide) ?_
      exact W.dret (v := (FP.dneg (FP.f2d (FP.fsub (FP.d2f (mX1_value a0)) (FP.d2f (mX1_value a1)))))) hx hb hr (fun t ht _ => ⟨by rw [mX0_apart_h, if_neg c_2], ht⟩) (fun _ h => by cases h) dX0_apart_52

def mX0_wholeSteps_w (u : AS) (a0 : Int64) (a1 : Int32) : Int64 := (mX5_whole (mX1_withSignOf (mX1_ofSize (FP.ddiv (mX1_valueOfSize a0) (mX1_valueOfSize u.2.2.1))) a0) a1)
set_option maxHeartbeats 4000000 in
set_option maxRecDepth 100000 in
theorem ct_X0_wholeSteps_w (l : Launch) (dC : Nat → ClassId) (dI : Nat → Nat → Nat) (x0 x1 : Nat) (k1 : ClassId) (u : AS) (a0 : Int64) (a1 : Int32) (hd : FP.dIsNaN (FP.ddiv (mX1_valueOfSize a0) (mX1_valueOfSize u.2.2.1)) = false) : Met l yX0_wholeSteps wsX0_wholeSteps { frames := 4, cells := 0, slots := 0, locals := 97 } (pR (dC, dI) vwCl [(k1, .long)] (WA x0 x1 k1 0 u) [.ref x0, .long a0, .int a1]) (k2_QcV (.long (mX0_wholeSteps_w u a0 a1))) 0 0 (fun _ => False) := by
  refine Met.ofW (cc := cX0_wholeSteps) (maxL := 10) (ret := (some .long)) (by decide) rfl ?_
  intro p e s m args below meth c s₁ B hml hv
  obtain ⟨rfl, hP, hK, hNW⟩ := hv
  have hx := B.exec
  have hb := B.bytes
  have hr := B.returns
  have hts := atoms_spec (ws := wsX0_wholeSteps) B.pre
  have hown : s.vm.findClass RX0 = some m.cls := findClass_of_methodNamed B.named
  have hlocks := B.notSynchronized
  have hin0 : ∀ w ∈ wsX00, w ∈ wsX0_wholeSteps := by decide +kernel
  have hl := lv_entry ([.ref x0, .long a0, .int a1]) (n := 10) (Nat.le_of_ble_eq_true rfl)
  rw [lg_entry_eq]
  generalize (lg_sl ([.ref x0, .long a0, .int a1]) ++ List.replicate (10 - (lg_sl ([.ref x0, .long a0, .int a1])).length) Slot.unset).toArray = ls at hl ⊢
  have hl : lv_has ls 10 [(0, .ref x0), (1, .long a0), (3, .int a1)] := hl
  refine lv_lload_n hx hb dX0_wholeSteps_0 rfl (lv_at hl 1 rfl) ?_
  refine hc_S (As := [.long a0]) (rest := []) ⟨hx, hb, hml, hown, hts⟩ (ct_X1_valueOfSize l a0) (va_cwS 1 hts gX0_wholeSteps_X1_valueOfSize rfl rfl rfl (by decide +kernel) ⟨Nat.le_of_ble_eq_true rfl, Nat.le_of_ble_eq_true rfl⟩) rfl hl.1 rfl (Nat.le_of_ble_eq_true rfl) dX0_wholeSteps_1 ⟨Nat.le_of_ble_eq_true rfl, Nat.le_of_ble_eq_true rfl⟩ ?_
  refine lv_dstore (lv' := [(4, .double (mX1_valueOfSize a0)), (0, .ref x0), (1, .long a0), (3, .int a1)]) hx hb dX0_wholeSteps_4 hl (by decide) rfl (fun ls hl => ?_)
  refine lv_aload_n hx hb dX0_wholeSteps_6 rfl (lv_at hl 1 rfl) ?_
  refine va_get (D := (dC, dI)) (ci := 0) (v := .long u.2.2.1) (C := RX0) (T := TX0) (N := 5) hx hb hts hin0 hown hK hP 0 rfl rfl 4 (by decide) (hts (.fieldLink RX0 30 "SnapTable$Axis" "step" "J") (by decide +kernel)) (fun _ h9 => h9) rfl dX0_wholeSteps_7 ?_
  refine hc_S (As := [.long u.2.2.1]) (rest := []) ⟨hx, hb, hml, hown, hts⟩ (ct_X1_valueOfSize l u.2.2.1) (va_cwS 1 hts gX0_wholeSteps_X1_valueOfSize rfl rfl rfl (by decide +kernel) ⟨Nat.le_of_ble_eq_true rfl, Nat.le_of_ble_eq_true rfl⟩) rfl hl.1 rfl (Nat.le_of_ble_eq_true rfl) dX0_wholeSteps_10 ⟨Nat.le_of_ble_eq_true rfl, Nat.le_of_ble_eq_true rfl⟩ ?_
  refine lv_dstore (lv' := [(6, .double (mX1_valueOfSize u.2.2.1)), (4, .double (mX1_valueOfSize a0)), (0, .ref x0), (1, .long a0), (3, .int a1)]) hx hb dX0_wholeSteps_13 hl (by decide) rfl (fun ls hl => ?_)
  refine lv_aload_n hx hb dX0_wholeSteps_15 rfl (lv_at hl 2 rfl) ?_
  refine va_get (D := (dC, dI)) (ci := 0) (v := .int (0 : Int32)) (C := RX0) (T := TX0) (N := 5) hx hb hts hin0 hown hK hP 0 rfl rfl 0 (by decide) (hts (.fieldLink RX0 33 "SnapTable$Axis" "slim" "Z") (by decide +kernel)) (fun _ h9 => h9) rfl dX0_wholeSteps_16 ?_
  refine lv_if_eq (tgt := 33) hx hb dX0_wholeSteps_19 (by decide) (fun c_1 => ?_) (fun c_1 => ?_)
  · refine lv_dload hx hb dX0_wholeSteps_33 (lv_at hl 1 rfl) ?_
    refine lv_dload hx hb dX0_wholeSteps_35 (lv_at hl 0 rfl) ?_
    refine lv_ddiv hx hb dX0_wholeSteps_37 (nn64 (by first | with_reducible assumption | with_reducible exact dn_d2f (value_nn _) | with_reducible exact dn_d2f (vos_nn _) | with_reducible exact dn_f2d (by with_reducible assumption))) ?_
    refine lv_dstore (lv' := [(8, .double (FP.ddiv (mX1_valueOfSize a0) (mX1_valueOfSize u.2.2.1))), (6, .double (mX1_valueOfSize u.2.2.1)), (4, .double (mX1_valueOfSize a0)), (0, .ref x0), (1, .long a0), (3, .int a1)]) hx hb dX0_wholeSteps_38 hl (by decide) rfl (fun ls hl => ?_)
    refine lv_dload hx hb dX0_wholeSteps_40 (lv_at hl 0 rfl) ?_
    refine hc_S (As := [.double (FP.ddiv (mX1_valueOfSize a0) (mX1_valueOfSize u.2.2.1))]) (rest := []) ⟨hx, hb, hml, hown, hts⟩ (ct_X1_ofSize l (FP.ddiv (mX1_valueOfSize a0) (mX1_valueOfSize u.2.2.1)) (by first | with_reducible assumption | with_reducible exact dn_f2d (by with_reducible assumption))) (va_cwS 1 hts gX0_wholeSteps_X1_ofSize rfl rfl rfl (by decide +kernel) ⟨Nat.le_of_ble_eq_true rfl, Nat.le_of_ble_eq_true rfl⟩) rfl hl.1 rfl (Nat.le_of_ble_eq_true rfl) dX0_wholeSteps_42 ⟨Nat.le_of_ble_eq_true rfl, Nat.le_of_ble_eq_true rfl⟩ ?_
    refine lv_lload_n hx hb dX0_wholeSteps_45 rfl (lv_at hl 4 rfl) ?_
    refine hc_S (As := [.long (mX1_ofSize (FP.ddiv (mX1_valueOfSize a0) (mX1_valueOfSize u.2.2.1))), .long a0]) (rest := []) ⟨hx, hb, hml, hown, hts⟩ (ct_X1_withSignOf l (mX1_ofSize (FP.ddiv (mX1_valueOfSize a0) (mX1_valueOfSize u.2.2.1))) a0) (va_cwS 2 hts gX0_wholeSteps_X1_withSignOf rfl rfl rfl (by decide +kernel) ⟨Nat.le_of_ble_eq_true rfl, Nat.le_of_ble_eq_true rfl⟩) rfl hl.1 rfl (Nat.le_of_ble_eq_true rfl) dX0_wholeSteps_46 ⟨Nat.le_of_ble_eq_true rfl, Nat.le_of_ble_eq_true rfl⟩ ?_
    refine lv_iload_n hx hb dX0_wholeSteps_49 rfl (lv_at hl 5 rfl) ?_
    refine hc_S (As := [.long (mX1_withSignOf (mX1_ofSize (FP.ddiv (mX1_valueOfSize a0) (mX1_valueOfSize u.2.2.1))) a0), .int a1]) (rest := []) ⟨hx, hb, hml, hown, hts⟩ (ct_X5_whole l (mX1_withSignOf (mX1_ofSize (FP.ddiv (mX1_valueOfSize a0) (mX1_valueOfSize u.2.2.1))) a0) a1) (va_cwS 2 hts gX0_wholeSteps_X5_whole rfl rfl rfl (by decide +kernel) ⟨Nat.le_of_ble_eq_true rfl, Nat.le_of_ble_eq_true rfl⟩) rfl hl.1 rfl (Nat.le_of_ble_eq_true rfl) dX0_wholeSteps_50 ⟨Nat.le_of_ble_eq_true rfl, Nat.le_of_ble_eq_true rfl⟩ ?_
    exact W.lret (v := (mX5_whole (mX1_withSignOf (mX1_ofSize (FP.ddiv (mX1_valueOfSize a0) (mX1_valueOfSize u.2.2.1))) a0) a1)) hx hb hr (fun t ht _ => ⟨by rw [mX0_wholeSteps_w], ht⟩) (fun _ h => by cases h) dX0_wholeSteps_53
  · exact absurd c_1 (by decide)

def mX0_wholeSteps_h (u : AS) (a0 : Int64) (a1 : Int32) : Int64 := (mX5_whole (mX1_withSignOf (mX1_ofSize (FP.f2d (FP.fdiv (FP.d2f (mX1_valueOfSize a0)) (FP.d2f (mX1_valueOfSize u.2.2.1))))) a0) a1)
set_option maxHeartbeats 4000000 in
set_option maxRecDepth 100000 in
theorem ct_X0_wholeSteps_h (l : Launch) (dC : Nat → ClassId) (dI : Nat → Nat → Nat) (x0 x1 : Nat) (k1 : ClassId) (u : AS) (a0 : Int64) (a1 : Int32) (hd : FP.fIsNaN (FP.fdiv (FP.d2f (mX1_valueOfSize a0)) (FP.d2f (mX1_valueOfSize u.2.2.1))) = false) : Met l yX0_wholeSteps wsX0_wholeSteps { frames := 4, cells := 0, slots := 0, locals := 97 } (pR (dC, dI) vwCl [(k1, .long)] (WA x0 x1 k1 1 u) [.ref x0, .long a0, .int a1]) (k2_QcV (.long (mX0_wholeSteps_h u a0 a1))) 0 0 (fun _ => False) := by
  refine Met.ofW (cc := cX0_wholeSteps) (maxL := 10) (ret := (some .long)) (by decide) rfl ?_
  intro p e s m args below meth c s₁ B hml hv
  obtain ⟨rfl, hP, hK, hNW⟩ := hv
  have hx := B.exec
  have hb := B.bytes
  have hr := B.returns
  have hts := atoms_spec (ws := wsX0_wholeSteps) B.pre
  have hown : s.vm.findClass RX0 = some m.cls := findClass_of_methodNamed B.named
  have hlocks := B.notSynchronized
  have hin0 : ∀ w ∈ wsX00, w ∈ wsX0_wholeSteps := by decide +kernel
  have hl := lv_entry ([.ref x0, .long a0, .int a1]) (n := 10) (Nat.le_of_ble_eq_true rfl)
  rw [lg_entry_eq]
  generalize (lg_sl ([.ref x0, .long a0, .int a1]) ++ List.replicate (10 - (lg_sl ([.ref x0, .long a0, .int a1])).length) Slot.unset).toArray = ls at hl ⊢
  have hl : lv_has ls 10 [(0, .ref x0), (1, .long a0), (3, .int a1)] := hl
  refine lv_lload_n hx hb dX0_wholeSteps_0 rfl (lv_at hl 1 rfl) ?_
  refine hc_S (As := [.long a0]) (rest := []) ⟨hx, hb, hml, hown, hts⟩ (ct_X1_valueOfSize l a0) (va_cwS 1 hts gX0_wholeSteps_X1_valueOfSize rfl rfl rfl (by decide +kernel) ⟨Nat.le_of_ble_eq_true rfl, Nat.le_of_ble_eq_true rfl⟩) rfl hl.1 rfl (Nat.le_of_ble_eq_true rfl) dX0_wholeSteps_1 ⟨Nat.le_of_ble_eq_true rfl, Nat.le_of_ble_eq_true rfl⟩ ?_
  refine lv_dstore (lv' := [(4, .double (mX1_valueOfSize a0)), (0, .ref x0), (1, .long a0), (3, .int a1)]) hx hb dX0_wholeSteps_4 hl (by decide) rfl (fun ls hl => ?_)
  refine lv_aload_n hx hb dX0_wholeSteps_6 rfl (lv_at hl 1 rfl) ?_
  refine va_get (D := (dC, dI)) (ci := 0) (v := .long u.2.2.1) (C := RX0) (T := TX0) (N := 5) hx hb hts hin0 hown hK hP 0 rfl rfl 4 (by decide) (hts (.fieldLink RX0 30 "SnapTable$Axis" "step" "J") (by decide +kernel)) (fun _ h9 => h9) rfl dX0_wholeSteps_7 ?_
  refine hc_S (As := [.long u.2.2.1]) (rest := []) ⟨hx, hb, hml, hown, hts⟩ (ct_X1_valueOfSize l u.2.2.1) (va_cwS 1 hts gX0_wholeSteps_X1_valueOfSize rfl rfl rfl (by decide +kernel) ⟨Nat.le_of_ble_eq_true rfl, Nat.le_of_ble_eq_true rfl⟩) rfl hl.1 rfl (Nat.le_of_ble_eq_true rfl) dX0_wholeSteps_10 ⟨Nat.le_of_ble_eq_true rfl, Nat.le_of_ble_eq_true rfl⟩ ?_
  refine lv_dstore (lv' := [(6, .double (mX1_valueOfSize u.2.2.1)), (4, .double (mX1_valueOfSize a0)), (0, .ref x0), (1, .long a0), (3, .int a1)]) hx hb dX0_wholeSteps_13 hl (by decide) rfl (fun ls hl => ?_)
  refine lv_aload_n hx hb dX0_wholeSteps_15 rfl (lv_at hl 2 rfl) ?_
  refine va_get (D := (dC, dI)) (ci := 0) (v := .int (1 : Int32)) (C := RX0) (T := TX0) (N := 5) hx hb hts hin0 hown hK hP 0 rfl rfl 0 (by decide) (hts (.fieldLink RX0 33 "SnapTable$Axis" "slim" "Z") (by decide +kernel)) (fun _ h9 => h9) rfl dX0_wholeSteps_16 ?_
  refine lv_if_eq (tgt := 33) hx hb dX0_wholeSteps_19 (by decide) (fun c_1 => ?_) (fun c_1 => ?_)
  · exact absurd c_1 (by decide)
  · refine lv_dload hx hb dX0_wholeSteps_22 (lv_at hl 1 rfl) ?_
    refine lv_d2f hx hb dX0_wholeSteps_24 (nn32 (by first | with_reducible assumption | with_reducible exact dn_d2f (value_nn _) | with_reducible exact dn_d2f (vos_nn _) | with_reducible exact dn_f2d (by with_reducible assumption))) ?_
    refine lv_dload hx hb dX0_wholeSteps_25 (lv_at hl 0 rfl) ?_
    refine lv_d2f hx hb dX0_wholeSteps_27 (nn32 (by first | with_reducible assumption | with_reducible exact dn_d2f (value_nn _) | with_reducible exact dn_d2f (vos_nn _) | with_reducible exact dn_f2d (by with_reducible assumption))) ?_
    refine lv_fdiv hx hb dX0_wholeSteps_28 (nn32 (by first | with_reducible assumption | with_reducible exact dn_d2f (value_nn _) | with_reducible exact dn_d2f (vos_nn _) | with_reducible exact dn_f2d (by with_reducible assumption))) ?_
    refine lv_f2d hx hb dX0_wholeSteps_29 (nn64 (by first | with_reducible assumption | with_reducible exact dn_d2f (value_nn _) | with_reducible exact dn_d2f (vos_nn _) | with_reducible exact dn_f2d (by with_reducible assumption))) ?_
    refine lv_goto (tgt := 38) hx hb dX0_wholeSteps_30 (by decide) ?_
    refine lv_dstore (lv' := [(8, .double (FP.f2d (FP.fdiv (FP.d2f (mX1_valueOfSize a0)) (FP.d2f (mX1_valueOfSize u.2.2.1))))), (6, .double (mX1_valueOfSize u.2.2.1)), (4, .double (mX1_valueOfSize a0)), (0, .ref x0), (1, .long a0), (3, .int a1)]) hx hb dX0_wholeSteps_38 hl (by decide) rfl (fun ls hl => ?_)
    refine lv_dload hx hb dX0_wholeSteps_40 (lv_at hl 0 rfl) ?_
    refine hc_S (As := [.double (FP.f2d (FP.fdiv (FP.d2f (mX1_valueOfSize a0)) (FP.d2f (mX1_valueOfSize u.2.2.1))))]) (rest := []) ⟨hx, hb, hml, hown, hts⟩ (ct_X1_ofSize l (FP.f2d (FP.fdiv (FP.d2f (mX1_valueOfSize a0)) (FP.d2f (mX1_valueOfSize u.2.2.1)))) (by first | with_reducible assumption | with_reducible exact dn_f2d (by with_reducible assumption))) (va_cwS 1 hts gX0_wholeSteps_X1_ofSize rfl rfl rfl (by decide +kernel) ⟨Nat.le_of_ble_eq_true rfl, Nat.le_of_ble_eq_true rfl⟩) rfl hl.1 rfl (Nat.le_of_ble_eq_true rfl) dX0_wholeSteps_42 ⟨Nat.le_of_ble_eq_true rfl, Nat.le_of_ble_eq_true rfl⟩ ?_
    refine lv_lload_n hx hb dX0_wholeSteps_45 rfl (lv_at hl 4 rfl) ?_
    refine hc_S (As := [.long (mX1_ofSize (FP.f2d (FP.fdiv (FP.d2f (mX1_valueOfSize a0)) (FP.d2f (mX1_valueOfSize u.2.2.1))))), .long a0]) (rest := []) ⟨hx, hb, hml, hown, hts⟩ (ct_X1_withSignOf l (mX1_ofSize (FP.f2d (FP.fdiv (FP.d2f (mX1_valueOfSize a0)) (FP.d2f (mX1_valueOfSize u.2.2.1))))) a0) (va_cwS 2 hts gX0_wholeSteps_X1_withSignOf rfl rfl rfl (by decide +kernel) ⟨Nat.le_of_ble_eq_true rfl, Nat.le_of_ble_eq_true rfl⟩) rfl hl.1 rfl (Nat.le_of_ble_eq_true rfl) dX0_wholeSteps_46 ⟨Nat.le_of_ble_eq_true rfl, Nat.le_of_ble_eq_true rfl⟩ ?_
    refine lv_iload_n hx hb dX0_wholeSteps_49 rfl (lv_at hl 5 rfl) ?_
    refine hc_S (As := [.long (mX1_withSignOf (mX1_ofSize (FP.f2d (FP.fdiv (FP.d2f (mX1_valueOfSize a0)) (FP.d2f (mX1_valueOfSize u.2.2.1))))) a0), .int a1]) (rest := []) ⟨hx, hb, hml, hown, hts⟩ (ct_X5_whole l (mX1_withSignOf (mX1_ofSize (FP.f2d (FP.fdiv (FP.d2f (mX1_valueOfSize a0)) (FP.d2f (mX1_valueOfSize u.2.2.1))))) a0) a1) (va_cwS 2 hts gX0_wholeSteps_X5_whole rfl rfl rfl (by decide +kernel) ⟨Nat.le_of_ble_eq_true rfl, Nat.le_of_ble_eq_true rfl⟩) rfl hl.1 rfl (Nat.le_of_ble_eq_true rfl) dX0_wholeSteps_50 ⟨Nat.le_of_ble_eq_true rfl, Nat.le_of_ble_eq_true rfl⟩ ?_
    exact W.lret (v := (mX5_whole (mX1_withSignOf (mX1_ofSize (FP.f2d (FP.fdiv (FP.d2f (mX1_valueOfSize a0)) (FP.d2f (mX1_valueOfSize u.2.2.1))))) a0) a1)) hx hb hr (fun t ht _ => ⟨by rw [mX0_wholeSteps_h], ht⟩) (fun _ h => by cases h) dX0_wholeSteps_53

def mX0_snapped_w (u : AS) (a0 : Int64) (a1 : Int32) : Int64 := (mX1_withSignOf (mX1_ofSize (FP.dmul (mX1_valueOfSize (mX0_wholeSteps_w u a0 a1)) (mX1_valueOfSize u.2.2.1))) a0)
set_option maxHeartbeats 4000000 in
set_option maxRecDepth 100000 in
theorem ct_X0_snapped_w (l : Launch) (dC : Nat → ClassId) (dI : Nat → Nat → Nat) (x0 x1 : Nat) (k1 : ClassId) (u : AS) (a0 : Int64) (a1 : Int32) (hd : FP.dIsNaN (FP.ddiv (mX1_valueOfSize a0) (mX1_valueOfSize u.2.2.1)) = false) (hm : FP.dIsNaN (FP.dmul (mX1_valueOfSize (mX0_wholeSteps_w u a0 a1)) (mX1_valueOfSize u.2.2.1)) = false) : Met l yX0_snapped wsX0_snapped { frames := 5, cells := 0, slots := 0, locals := 126 } (pR (dC, dI) vwCl [(k1, .long)] (WA x0 x1 k1 0 u) [.ref x0, .long a0, .int a1]) (k2_QcV (.long (mX0_snapped_w u a0 a1))) 0 0 (fun _ => False) := by
  refine Met.ofW (cc := cX0_snapped) (maxL := 10) (ret := (some .long)) (by decide) rfl ?_
  intro p e s m args below meth c s₁ B hml hv
  obtain ⟨rfl, hP, hK, hNW⟩ := hv
  have hx := B.exec
  have hb := B.bytes
  have hr := B.returns
  have hts := atoms_spec (ws := wsX0_snapped) B.pre
  have hown : s.vm.findClass RX0 = some m.cls := findClass_of_methodNamed B.named
  have hlocks := B.notSynchronized
  have hin0 : ∀ w ∈ wsX00, w ∈ wsX0_snapped := by decide +kernel
  have hl := lv_entry ([.ref x0, .long a0, .int a1]) (n := 10) (Nat.le_of_ble_eq_true rfl)
  rw [lg_entry_eq]
  generalize (lg_sl ([.ref x0, .long a0, .int a1]) ++ List.replicate (10 - (lg_sl ([.ref x0, .long a0, .int a1])).length) Slot.unset).toArray = ls at hl ⊢
  have hl : lv_has ls 10 [(0, .ref x0), (1, .long a0), (3, .int a1)] := hl
  refine lv_aload_n hx hb dX0_snapped_0 rfl (lv_at hl 0 rfl) ?_
  refine lv_lload_n hx hb dX0_snapped_1 rfl (lv_at hl 1 rfl) ?_
  refine lv_iload_n hx hb dX0_snapped_2 rfl (lv_at hl 2 rfl) ?_
  refine hc_V (C := RX0) (ci := 0) (T := TX0) (N := 5) (As := [.long a0, .int a1]) (rest := []) ⟨hx, hb, hml, hown, hts⟩ (ct_X0_wholeSteps_w l dC dI x0 x1 k1 u a0 a1 (by first | with_reducible assumption | with_reducible exact dn_f2d (by with_reducible assumption))) (cwV 2 hts gX0_snapped_X0_wholeSteps rfl rfl rfl (by decide +kernel) ⟨Nat.le_of_ble_eq_true rfl, Nat.le_of_ble_eq_true rfl⟩) (hw_part hP [0, 1] rfl) (hK.sub [0] rfl) hNW rfl rfl rfl hl.1 rfl (Nat.le_of_ble_eq_true rfl) dX0_snapped_3 ⟨Nat.le_of_ble_eq_true rfl, Nat.le_of_ble_eq_true rfl⟩ ?_
  refine hc_S (As := [.long (mX0_wholeSteps_w u a0 a1)]) (rest := []) ⟨hx, hb, hml, hown, hts⟩ (ct_X1_valueOfSize l (mX0_wholeSteps_w u a0 a1)) (va_cwS 1 hts gX0_snapped_X1_valueOfSize rfl rfl rfl (by decide +kernel) ⟨Nat.le_of_ble_eq_true rfl, Nat.le_of_ble_eq_true rfl⟩) rfl hl.1 rfl (Nat.le_of_ble_eq_true rfl) dX0_snapped_6 ⟨Nat.le_of_ble_eq_true rfl, Nat.le_of_ble_eq_true rfl⟩ ?_
  refine lv_dstore (lv' := [(4, .double (mX1_valueOfSize (mX0_wholeSteps_w u a0 a1))), (0, .ref x0), (1, .long a0), (3, .int a1)]) hx hb dX0_snapped_9 hl (by decide) rfl (fun ls hl => ?_)
  refine lv_aload_n hx hb dX0_snapped_11 rfl (lv_at hl 1 rfl) ?_
  refine va_get (D := (dC, dI)) (ci := 0) (v := .long u.2.2.1) (C := RX0) (T := TX0) (N := 5) hx hb hts hin0 hown hK hP 0 rfl rfl 4 (by decide) (hts (.fieldLink RX0 30 "SnapTable$Axis" "step" "J") (by decide +kernel)) (fun _ h9 => h9) rfl dX0_snapped_12 ?_
  refine hc_S (As := [.long u.2.2.1]) (rest := []) ⟨hx, hb, hml, hown, hts⟩ (ct_X1_valueOfSize l u.2.2.1) (va_cwS 1 hts gX0_snapped_X1_valueOfSize rfl rfl rfl (by decide +kernel) ⟨Nat.le_of_ble_eq_true rfl, Nat.le_of_ble_eq_true rfl⟩) rfl hl.1 rfl (Nat.le_of_ble_eq_true rfl) dX0_snapped_15 ⟨Nat.le_of_ble_eq_true rfl, Nat.le_of_ble_eq_true rfl⟩ ?_
  refine lv_dstore (lv' := [(6, .double (mX1_valueOfSize u.2.2.1)), (4, .double (mX1_valueOfSize (mX0_wholeSteps_w u a0 a1))), (0, .ref x0), (1, .long a0), (3, .int a1)]) hx hb dX0_snapped_18 hl (by decide) rfl (fun ls hl => ?_)
  refine lv_aload_n hx hb dX0_snapped_20 rfl (lv_at hl 2 rfl) ?_
  refine va_get (D := (dC, dI)) (ci := 0) (v := .int (0 : Int32)) (C := RX0) (T := TX0) (N := 5) hx hb hts hin0 hown hK hP 0 rfl rfl 0 (by decide) (hts (.fieldLink RX0 33 "SnapTable$Axis" "slim" "Z") (by decide +kernel)) (fun _ h9 => h9) rfl dX0_snapped_21 ?_
  refine lv_if_eq (tgt := 38) hx hb dX0_snapped_24 (by decide) (fun c_1 => ?_) (fun c_1 => ?_)
  · refine lv_dload hx hb dX0_snapped_38 (lv_at hl 1 rfl) ?_
    refine lv_dload hx hb dX0_snapped_40 (lv_at hl 0 rfl) ?_
    refine lv_dmul hx hb dX0_snapped_42 (nn64 (by first | with_reducible assumption | with_reducible exact dn_d2f (value_nn _) | with_reducible exact dn_d2f (vos_nn _) | with_reducible exact dn_f2d (by with_reducible assumption))) ?_
    refine lv_dstore (lv' := [(8, .double (FP.dmul (mX1_valueOfSize (mX0_wholeSteps_w u a0 a1)) (mX1_valueOfSize u.2.2.1))), (6, .double (mX1_valueOfSize u.2.2.1)), (4, .double (mX1_valueOfSize (mX0_wholeSteps_w u a0 a1))), (0, .ref x0), (1, .long a0), (3, .int a1)]) hx hb dX0_snapped_43 hl (by decide) rfl (fun ls hl => ?_)
    refine lv_dload hx hb dX0_snapped_45 (lv_at hl 0 rfl) ?_
    refine hc_S (As := [.double (FP.dmul (mX1_valueOfSize (mX0_wholeSteps_w u a0 a1)) (mX1_valueOfSize u.2.2.1))]) (rest := []) ⟨hx, hb, hml, hown, hts⟩ (ct_X1_ofSize l (FP.dmul (mX1_valueOfSize (mX0_wholeSteps_w u a0 a1)) (mX1_valueOfSize u.2.2.1)) (by first | with_reducible assumption | with_reducible exact dn_f2d (by with_reducible assumption))) (va_cwS 1 hts gX0_snapped_X1_ofSize rfl rfl rfl (by decide +kernel) ⟨Nat.le_of_ble_eq_true rfl, Nat.le_of_ble_eq_true rfl⟩) rfl hl.1 rfl (Nat.le_of_ble_eq_true rfl) dX0_snapped_47 ⟨Nat.le_of_ble_eq_true rfl, Nat.le_of_ble_eq_true rfl⟩ ?_
    refine lv_lload_n hx hb dX0_snapped_50 rfl (lv_at hl 4 rfl) ?_
    refine hc_S (As := [.long (mX1_ofSize (FP.dmul (mX1_valueOfSize (mX0_wholeSteps_w u a0 a1)) (mX1_valueOfSize u.2.2.1))), .long a0]) (rest := []) ⟨hx, hb, hml, hown, hts⟩ (ct_X1_withSignOf l (mX1_ofSize (FP.dmul (mX1_valueOfSize (mX0_wholeSteps_w u a0 a1)) (mX1_valueOfSize u.2.2.1))) a0) (va_cwS 2 hts gX0_snapped_X1_withSignOf rfl rfl rfl (by decide +kernel) ⟨Nat.le_of_ble_eq_true rfl, Nat.le_of_ble_eq_true rfl⟩) rfl hl.1 rfl (Nat.le_of_ble_eq_true rfl) dX0_snapped_51 ⟨Nat.le_of_ble_eq_true rfl, Nat.le_of_ble_eq_true rfl⟩ ?_
    exact W.lret (v := (mX1_withSignOf (mX1_ofSize (FP.dmul (mX1_valueOfSize (mX0_wholeSteps_w u a0 a1)) (mX1_valueOfSize u.2.2.1))) a0)) hx hb hr (fun t ht _ => ⟨by rw [mX0_snapped_w], ht⟩) (fun _ h => by cases h) dX0_snapped_54
  · exact absurd c_1 (by decide)

def mX0_snapped_h (u : AS) (a0 : Int64) (a1 : Int32) : Int64 := (mX1_withSignOf (mX1_ofSize (FP.f2d (FP.fmul (FP.d2f (mX1_valueOfSize (mX0_wholeSteps_h u a0 a1))) (FP.d2f (mX1_valueOfSize u.2.2.1))))) a0)
set_option maxHeartbeats 4000000 in
set_option maxRecDepth 100000 in
theorem ct_X0_snapped_h (l : Launch) (dC : Nat → ClassId) (dI : Nat → Nat → Nat) (x0 x1 : Nat) (k1 : ClassId) (u : AS) (a0 : Int64) (a1 : Int32) (hd : FP.fIsNaN (FP.fdiv (FP.d2f (mX1_valueOfSize a0)) (FP.d2f (mX1_valueOfSize u.2.2.1))) = false) (hm : FP.fIsNaN (FP.fmul (FP.d2f (mX1_valueOfSize (mX0_wholeSteps_h u a0 a1))) (FP.d2f (mX1_valueOfSize u.2.2.1))) = false) : Met l yX0_snapped wsX0_snapped { frames := 5, cells := 0, slots := 0, locals := 126 } (pR (dC, dI) vwCl [(k1, .long)] (WA x0 x1 k1 1 u) [.ref x0, .long a0, .int a1]) (k2_QcV (.long (mX0_snapped_h u a0 a1))) 0 0 (fun _ => False) := by
  refine Met.ofW (cc := cX0_snapped) (maxL := 10) (ret := (some .long)) (by decide) rfl ?_
  intro p e s m args below meth c s₁ B hml hv
  obtain ⟨rfl, hP, hK, hNW⟩ := hv
  have hx := B.exec
  have hb := B.bytes
  have hr := B.returns
  have hts := atoms_spec (ws := wsX0_snapped) B.pre
  have hown : s.vm.findClass RX0 = some m.cls := findClass_of_methodNamed B.named
  have hlocks := B.notSynchronized
  have hin0 : ∀ w ∈ wsX00, w ∈ wsX0_snapped := by decide +kernel
  have hl := lv_entry ([.ref x0, .long a0, .int a1]) (n := 10) (Nat.le_of_ble_eq_true rfl)
  rw [lg_entry_eq]
  generalize (lg_sl ([.ref x0, .long a0, .int a1]) ++ List.replicate (10 - (lg_sl ([.ref x0, .long a0, .int a1])).length) Slot.unset).toArray = ls at hl ⊢
  have hl : lv_has ls 10 [(0, .ref x0), (1, .long a0), (3, .int a1)] := hl
  refine lv_aload_n hx hb dX0_snapped_0 rfl (lv_at hl 0 rfl) ?_
  refine lv_lload_n hx hb dX0_snapped_1 rfl (lv_at hl 1 rfl) ?_
  refine lv_iload_n hx hb dX0_snapped_2 rfl (lv_at hl 2 rfl) ?_
  refine hc_V (C := RX0) (ci := 0) (T := TX0) (N := 5) (As := [.long a0, .int a1]) (rest := []) ⟨hx, hb, hml, hown, hts⟩ (ct_X0_wholeSteps_h l dC dI x0 x1 k1 u a0 a1 (by first | with_reducible assumption | with_reducible exact dn_f2d (by with_reducible assumption))) (cwV 2 hts gX0_snapped_X0_wholeSteps rfl rfl rfl (by decide +kernel) ⟨Nat.le_of_ble_eq_true rfl, Nat.le_of_ble_eq_true rfl⟩) (hw_part hP [0, 1] rfl) (hK.sub [0] rfl) hNW rfl rfl rfl hl.1 rfl (Nat.le_of_ble_eq_true rfl) dX0_snapped_3 ⟨Nat.le_of_ble_eq_true rfl, Nat.le_of_ble_eq_true rfl⟩ ?_
  refine hc_S (As := [.long (mX0_wholeSteps_h u a0 a1)]) (rest := []) ⟨hx, hb, hml, hown, hts⟩ (ct_X1_valueOfSize l (mX0_wholeSteps_h u a0 a1)) (va_cwS 1 hts gX0_snapped_X1_valueOfSize rfl rfl rfl (by decide +kernel) ⟨Nat.le_of_ble_eq_true rfl, Nat.le_of_ble_eq_true rfl⟩) rfl hl.1 rfl (Nat.le_of_ble_eq_true rfl) dX0_snapped_6 ⟨Nat.le_of_ble_eq_true rfl, Nat.le_of_ble_eq_true rfl⟩ ?_
  refine lv_dstore (lv' := [(4, .double (mX1_valueOfSize (mX0_wholeSteps_h u a0 a1))), (0, .ref x0), (1, .long a0), (3, .int a1)]) hx hb dX0_snapped_9 hl (by decide) rfl (fun ls hl => ?_)
  refine lv_aload_n hx hb dX0_snapped_11 rfl (lv_at hl 1 rfl) ?_
  refine va_get (D := (dC, dI)) (ci := 0) (v := .long u.2.2.1) (C := RX0) (T := TX0) (N := 5) hx hb hts hin0 hown hK hP 0 rfl rfl 4 (by decide) (hts (.fieldLink RX0 30 "SnapTable$Axis" "step" "J") (by decide +kernel)) (fun _ h9 => h9) rfl dX0_snapped_12 ?_
  refine hc_S (As := [.long u.2.2.1]) (rest := []) ⟨hx, hb, hml, hown, hts⟩ (ct_X1_valueOfSize l u.2.2.1) (va_cwS 1 hts gX0_snapped_X1_valueOfSize rfl rfl rfl (by decide +kernel) ⟨Nat.le_of_ble_eq_true rfl, Nat.le_of_ble_eq_true rfl⟩) rfl hl.1 rfl (Nat.le_of_ble_eq_true rfl) dX0_snapped_15 ⟨Nat.le_of_ble_eq_true rfl, Nat.le_of_ble_eq_true rfl⟩ ?_
  refine lv_dstore (lv' := [(6, .double (mX1_valueOfSize u.2.2.1)), (4, .double (mX1_valueOfSize (mX0_wholeSteps_h u a0 a1))), (0, .ref x0), (1, .long a0), (3, .int a1)]) hx hb dX0_snapped_18 hl (by decide) rfl (fun ls hl => ?_)
  refine lv_aload_n hx hb dX0_snapped_20 rfl (lv_at hl 2 rfl) ?_
  refine va_get (D := (dC, dI)) (ci := 0) (v := .int (1 : Int32)) (C := RX0) (T := TX0) (N := 5) hx hb hts hin0 hown hK hP 0 rfl rfl 0 (by decide) (hts (.fieldLink RX0 33 "SnapTable$Axis" "slim" "Z") (by decide +kernel)) (fun _ h9 => h9) rfl dX0_snapped_21 ?_
  refine lv_if_eq (tgt := 38) hx hb dX0_snapped_24 (by decide) (fun c_1 => ?_) (fun c_1 => ?_)
  · exact absurd c_1 (by decide)
  · refine lv_dload hx hb dX0_snapped_27 (lv_at hl 1 rfl) ?_
    refine lv_d2f hx hb dX0_snapped_29 (nn32 (by first | with_reducible assumption | with_reducible exact dn_d2f (value_nn _) | with_reducible exact dn_d2f (vos_nn _) | with_reducible exact dn_f2d (by with_reducible assumption))) ?_
    refine lv_dload hx hb dX0_snapped_30 (lv_at hl 0 rfl) ?_
    refine lv_d2f hx hb dX0_snapped_32 (nn32 (by first | with_reducible assumption | with_reducible exact dn_d2f (value_nn _) | with_reducible exact dn_d2f (vos_nn _) | with_reducible exact dn_f2d (by with_reducible assumption))) ?_
    refine lv_fmul hx hb dX0_snapped_33 (nn32 (by first | with_reducible assumption | with_reducible exact dn_d2f (value_nn _) | with_reducible exact dn_d2f (vos_nn _) | with_reducible exact dn_f2d (by with_reducible assumption))) ?_
    refine lv_f2d hx hb dX0_snapped_34 (nn64 (by first | with_reducible assumption | with_reducible exact dn_d2f (value_nn _) | with_reducible exact dn_d2f (vos_nn _) | with_reducible exact dn_f2d (by with_reducible assumption))) ?_
    refine lv_goto (tgt := 43) hx hb dX0_snapped_35 (by decide) ?_
    refine lv_dstore (lv' := [(8, .double (FP.f2d (FP.fmul (FP.d2f (mX1_valueOfSize (mX0_wholeSteps_h u a0 a1))) (FP.d2f (mX1_valueOfSize u.2.2.1))))), (6, .double (mX1_valueOfSize u.2.2.1)), (4, .double (mX1_valueOfSize (mX0_wholeSteps_h u a0 a1))), (0, .ref x0), (1, .long a0), (3, .int a1)]) hx hb dX0_snapped_43 hl (by decide) rfl (fun ls hl => ?_)
    refine lv_dload hx hb dX0_snapped_45 (lv_at hl 0 rfl) ?_
    refine hc_S (As := [.double (FP.f2d (FP.fmul (FP.d2f (mX1_valueOfSize (mX0_wholeSteps_h u a0 a1))) (FP.d2f (mX1_valueOfSize u.2.2.1))))]) (rest := []) ⟨hx, hb, hml, hown, hts⟩ (ct_X1_ofSize l (FP.f2d (FP.fmul (FP.d2f (mX1_valueOfSize (mX0_wholeSteps_h u a0 a1))) (FP.d2f (mX1_valueOfSize u.2.2.1)))) (by first | with_reducible assumption | with_reducible exact dn_f2d (by with_reducible assumption))) (va_cwS 1 hts gX0_snapped_X1_ofSize rfl rfl rfl (by decide +kernel) ⟨Nat.le_of_ble_eq_true rfl, Nat.le_of_ble_eq_true rfl⟩) rfl hl.1 rfl (Nat.le_of_ble_eq_true rfl) dX0_snapped_47 ⟨Nat.le_of_ble_eq_true rfl, Nat.le_of_ble_eq_true rfl⟩ ?_
    refine lv_lload_n hx hb dX0_snapped_50 rfl (lv_at hl 4 rfl) ?_
    refine hc_S (As := [.long (mX1_ofSize (FP.f2d (FP.fmul (FP.d2f (mX1_valueOfSize (mX0_wholeSteps_h u a0 a1))) (FP.d2f (mX1_valueOfSize u.2.2.1))))), .long a0]) (rest := []) ⟨hx, hb, hml, hown, hts⟩ (ct_X1_withSignOf l (mX1_ofSize (FP.f2d (FP.fmul (FP.d2f (mX1_valueOfSize (mX0_wholeSteps_h u a0 a1))) (FP.d2f (mX1_valueOfSize u.2.2.1))))) a0) (va_cwS 2 hts gX0_snapped_X1_withSignOf rfl rfl rfl (by decide +kernel) ⟨Nat.le_of_ble_eq_true rfl, Nat.le_of_ble_eq_true rfl⟩) rfl hl.1 rfl (Nat.le_of_ble_eq_true rfl) dX0_snapped_51 ⟨Nat.le_of_ble_eq_true rfl, Nat.le_of_ble_eq_true rfl⟩ ?_
    exact W.lret (v := (mX1_withSignOf (mX1_ofSize (FP.f2d (FP.fmul (FP.d2f (mX1_valueOfSize (mX0_wholeSteps_h u a0 a1))) (FP.d2f (mX1_valueOfSize u.2.2.1))))) a0)) hx hb hr (fun t ht _ => ⟨by rw [mX0_snapped_h], ht⟩) (fun _ h => by cases h) dX0_snapped_54
