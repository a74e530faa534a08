def mX0_wallAll_L (u : AS) (a0 : Int64) (a1 : Int64) : Nat → Int32 → Int32 → AS → Int32 × AS
  | 0, _, _, _ => default
  | n + 1, q, i, v => (if (8 : Int32) ≤ i then (q, v) else (if (lg_cmp (mX0_walled v (v.2.2.2 i.toNatClampNeg)) (v.2.2.2 i.toNatClampNeg)) = 0 then (mX0_wallAll_L u a0 a1 n q (i + 1) (v.1, v.2.1, v.2.2.1, (vp_updL v.2.2.2 i.toNatClampNeg (mX0_walled v (v.2.2.2 i.toNatClampNeg))))) else (mX0_wallAll_L u a0 a1 n (q + 1) (i + 1) (v.1, v.2.1, v.2.2.1, (vp_updL v.2.2.2 i.toNatClampNeg (mX0_walled v (v.2.2.2 i.toNatClampNeg)))))))
def mX0_wallAll (u : AS) (a0 : Int64) (a1 : Int64) : Int32 × AS := (mX0_wallAll_L u a0 a1 9 (0 : Int32) (0 : Int32) (a0, a1, u.2.2.1, u.2.2.2))
set_option maxHeartbeats 4000000 in
set_option maxRecDepth 100000 in
theorem ct_X0_wallAll (l : Launch) (dC : Nat → ClassId) (dI : Nat → Nat → Nat) (x0 x1 : Nat) (k1 : ClassId) (sl : Int32) (sz : Nat) (u : AS) (a0 : Int64) (a1 : Int64) : Met l yX0_wallAll wsX0_wallAll { frames := 3, cells := 0, slots := 0, locals := 66 } (pM (dC, dI) vwCl [(k1, .long)] (WA x0 x1 k1 sl u) sz [.ref x0, .long a0, .long a1]) (qM (dC, dI) vwCl (WA x0 x1 k1 sl u) sz (some (.int (mX0_wallAll u a0 a1).1)) (WA x0 x1 k1 sl (mX0_wallAll u a0 a1).2)) 0 0 (va_A (WA x0 x1 k1 sl u) sz) := by
  refine Met.ofW (cc := cX0_wallAll) (maxL := 9) (ret := (some .int)) (by decide) rfl ?_
  intro p e s m args below meth c s₁ B hml hv
  obtain ⟨rfl, hsz, hP, hK, hD0, hNW⟩ := hv
  subst hsz
  have hx := B.exec
  have hb := B.bytes
  have hr := B.returns
  have hts := atoms_spec (ws := wsX0_wallAll) B.pre
  have hown : s.vm.findClass RX0 = some m.cls := findClass_of_methodNamed B.named
  have hlocks := B.notSynchronized
  have hin0 : ∀ w ∈ wsX00, w ∈ wsX0_wallAll := by decide +kernel
  have hD : va_D (va_A (WA x0 x1 k1 sl u) s.heap.size) (WA x0 x1 k1 sl u) := hD0.self
  have hA : ∀ q : Nat, s.heap.size ≤ q → va_A (WA x0 x1 k1 sl u) s.heap.size q := fun q h => Or.inr h
  have hS : va_S (va_A (WA x0 x1 k1 sl u) s.heap.size) s.heap s.heap [] := va_S.rf
  have hl := lv_entry ([.ref x0, .long a0, .long a1]) (n := 9) (Nat.le_of_ble_eq_true rfl)
  rw [lg_entry_eq]
  generalize (lg_sl ([.ref x0, .long a0, .long a1]) ++ List.replicate (9 - (lg_sl ([.ref x0, .long a0, .long a1])).length) Slot.unset).toArray = ls at hl ⊢
  have hl : lv_has ls 9 [(0, .ref x0), (1, .long a0), (3, .long a1)] := hl
  refine lv_aload_n hx hb dX0_wallAll_0 rfl (lv_at hl 0 rfl) ?_
  refine lv_lload_n hx hb dX0_wallAll_1 rfl (lv_at hl 1 rfl) ?_
  refine va_put (D := (dC, dI)) (ci := 0) (v := .long a0) (ty := .long) (C := RX0) (T := TX0) (N := 5) hx hb hts hin0 tyX0 tyX0_ok nmX0 hown hK hP hD hS 0 rfl rfl 2 (by decide) (hts (.fieldLink RX0 19 "SnapTable$Axis" "least" "J") (by decide +kernel)) (fun _ h9 => h9) rfl (by decide +kernel) rfl rfl (Nat.le_of_ble_eq_true rfl) dX0_wallAll_2 (fun H locs hP hD hS => ?_)
  have hP : va_P (dC, dI) vwCl (WA x0 x1 k1 sl (a0, u.2.1, u.2.2.1, u.2.2.2)) H := hP
  have hD : va_D (va_A (WA x0 x1 k1 sl u) s.heap.size) (WA x0 x1 k1 sl (a0, u.2.1, u.2.2.1, u.2.2.2)) := hD
  refine lv_aload_n hx hb dX0_wallAll_5 rfl (lv_at hl 0 rfl) ?_
  refine lv_lload_n hx hb dX0_wallAll_6 rfl (lv_at hl 2 rfl) ?_
  refine va_put (D := (dC, dI)) (ci := 0) (v := .long a1) (ty := .long) (C := RX0) (T := TX0) (N := 5) hx hb hts hin0 tyX0 tyX0_ok nmX0 hown hK hP hD hS 0 rfl rfl 3 (by decide) (hts (.fieldLink RX0 25 "SnapTable$Axis" "most" "J") (by decide +kernel)) (fun _ h9 => h9) rfl (by decide +kernel) rfl rfl (Nat.le_of_ble_eq_true rfl) dX0_wallAll_7 (fun H locs hP hD hS => ?_)
  have hP : va_P (dC, dI) vwCl (WA x0 x1 k1 sl (a0, a1, u.2.2.1, u.2.2.2)) H := hP
  have hD : va_D (va_A (WA x0 x1 k1 sl u) s.heap.size) (WA x0 x1 k1 sl (a0, a1, u.2.2.1, u.2.2.2)) := hD
  refine lv_iconst (v := (0 : Int32)) hx hb dX0_wallAll_10 (by decide) ?_
  refine lv_istore (lv' := [(5, .int (0 : Int32)), (0, .ref x0), (1, .long a0), (3, .long a1)]) hx hb dX0_wallAll_11 hl (by decide) rfl (fun ls hl => ?_)
  refine lv_iconst (v := (0 : Int32)) hx hb dX0_wallAll_13 (by decide) ?_
  refine lv_istore (lv' := [(6, .int (0 : Int32)), (5, .int (0 : Int32)), (0, .ref x0), (1, .long a0), (3, .long a1)]) hx hb dX0_wallAll_14 hl (by decide) rfl (fun ls hl => ?_)
  have loop : ∀ (n : Nat) (q : Int32) (i : Int32) (v : AS) (H : Heap) (locs : List Loc) (ls : Array Slot), LU 8 n i → mX0_wallAll_L u a0 a1 n q i v = mX0_wallAll u a0 a1 → va_P (dC, dI) vwCl (WA x0 x1 k1 sl v) H → va_D (va_A (WA x0 x1 k1 sl u) s.heap.size) (WA x0 x1 k1 sl v) → va_S (va_A (WA x0 x1 k1 sl u) s.heap.size) s.heap H locs → lv_has ls 9 [(5, .int q), (6, .int i), (0, .ref x0), (1, .long a0), (3, .long a1)] → W p l e (headSpec wsX0_wallAll { frames := 3, cells := 0, slots := 0, locals := 66 }).room s m ([.ref x0, .long a0, .long a1] : List Value).toArray below meth c H locs 0 0 (MQ below (qM (dC, dI) vwCl (WA x0 x1 k1 sl u) s.heap.size (some (.int (mX0_wallAll u a0 a1).1)) (WA x0 x1 k1 sl (mX0_wallAll u a0 a1).2)) ([.ref x0, .long a0, .long a1] : List Value).toArray s 0 0 (va_A (WA x0 x1 k1 sl u) s.heap.size)) (F0 m 16 ls []) := by
    intro n
    induction n with
    | zero => intro q i v H locs ls hm; exact absurd hm (fun h => h.z)
    | succ n ih =>
      intro q i v H locs ls hm  heq hP hD hS hl
      refine lv_iload hx hb dX0_wallAll_16 (lv_at hl 1 rfl) ?_
      refine lv_bipush (v := (8 : Int32)) hx hb dX0_wallAll_18 (by decide) ?_
      refine lv_icmp_ge (tgt := 67) hx hb dX0_wallAll_20 (by decide) (fun c_1 => ?_) (fun c_1 => ?_)
      · refine lv_iload hx hb dX0_wallAll_67 (lv_at hl 0 rfl) ?_
        have he : mX0_wallAll u a0 a1 = (q, v) := by rw [← heq, mX0_wallAll_L, if_pos c_1]
        exact rM_i hx hb hr hlocks hP hD hS (by rw [he]) (by rw [he]) dX0_wallAll_69
      · refine lv_aload_n hx hb dX0_wallAll_23 rfl (lv_at hl 2 rfl) ?_
        refine lv_aload_n hx hb dX0_wallAll_24 rfl (lv_at hl 2 rfl) ?_
        refine va_get (D := (dC, dI)) (ci := 0) (v := .ref x1) (C := RX0) (T := TX0) (N := 5) hx hb hts hin0 hown hK hP 0 rfl rfl 1 (by decide) (hts (.fieldLink RX0 9 "SnapTable$Axis" "at" "[J") (by decide +kernel)) (fun _ h9 => h9) rfl dX0_wallAll_25 ?_
        refine lv_iload hx hb dX0_wallAll_28 (lv_at hl 1 rfl) ?_
        refine va_lald hx hb hK hP 1 0 rfl rfl (by first | with_reducible assumption | with_reducible exact pt_in (by with_reducible assumption) | with_reducible exact ptm_in (by with_reducible assumption) | exact LU.vin (B := 8) hm (by decide) (by with_reducible assumption) (by decide) | exact LU.vin (B := 4) hm (by decide) (by with_reducible assumption) (by decide) | exact LU.vin (B := 16) hm (by decide) (by with_reducible assumption) (by decide) | exact vp_in_nI (n := 0) (by decide) (by decide) | with_reducible exact gdm_in (by with_reducible assumption) (by with_reducible assumption) | with_reducible exact gd_in (by with_reducible assumption) (by with_reducible assumption)) dX0_wallAll_30 ?_
        refine hc_V (C := RX0) (ci := 0) (T := TX0) (N := 5) (As := [.long (v.2.2.2 i.toNatClampNeg)]) (rest := []) ⟨hx, hb, hml, hown, hts⟩ (ct_X0_walled l dC dI x0 x1 k1 sl v (v.2.2.2 i.toNatClampNeg)) (cwV 1 hts gX0_wallAll_X0_walled rfl rfl rfl (by decide +kernel) ⟨Nat.le_of_ble_eq_true rfl, Nat.le_of_ble_eq_true rfl⟩) (hw_part hP [0, 1] rfl) (hK.sub [0] rfl) hNW rfl rfl rfl hl.1 rfl (Nat.le_of_ble_eq_true rfl) dX0_wallAll_31 ⟨Nat.le_of_ble_eq_true rfl, Nat.le_of_ble_eq_true rfl⟩ ?_
        refine lv_lstore (lv' := [(7, .long (mX0_walled v (v.2.2.2 i.toNatClampNeg))), (5, .int q), (6, .int i), (0, .ref x0), (1, .long a0), (3, .long a1)]) hx hb dX0_wallAll_34 hl (by decide) rfl (fun ls hl => ?_)
        refine lv_lload hx hb dX0_wallAll_36 (lv_at hl 0 rfl) ?_
        refine lv_aload_n hx hb dX0_wallAll_38 rfl (lv_at hl 3 rfl) ?_
        refine va_get (D := (dC, dI)) (ci := 0) (v := .ref x1) (C := RX0) (T := TX0) (N := 5) hx hb hts hin0 hown hK hP 0 rfl rfl 1 (by decide) (hts (.fieldLink RX0 9 "SnapTable$Axis" "at" "[J") (by decide +kernel)) (fun _ h9 => h9) rfl dX0_wallAll_39 ?_
        refine lv_iload hx hb dX0_wallAll_42 (lv_at hl 2 rfl) ?_
        refine va_lald hx hb hK hP 1 0 rfl rfl (by first | with_reducible assumption | with_reducible exact pt_in (by with_reducible assumption) | with_reducible exact ptm_in (by with_reducible assumption) | exact LU.vin (B := 8) hm (by decide) (by with_reducible assumption) (by decide) | exact LU.vin (B := 4) hm (by decide) (by with_reducible assumption) (by decide) | exact LU.vin (B := 16) hm (by decide) (by with_reducible assumption) (by decide) | exact vp_in_nI (n := 0) (by decide) (by decide) | with_reducible exact gdm_in (by with_reducible assumption) (by with_reducible assumption) | with_reducible exact gd_in (by with_reducible assumption) (by with_reducible assumption)) dX0_wallAll_44 ?_
        refine W.lcmp hx hb dX0_wallAll_45 ?_
        refine lv_if_eq (tgt := 52) hx hb dX0_wallAll_46 (by decide) (fun c_2 => ?_) (fun c_2 => ?_)
        · refine lv_aload_n hx hb dX0_wallAll_52 rfl (lv_at hl 3 rfl) ?_
          refine va_get (D := (dC, dI)) (ci := 0) (v := .ref x1) (C := RX0) (T := TX0) (N := 5) hx hb hts hin0 hown hK hP 0 rfl rfl 1 (by decide) (hts (.fieldLink RX0 9 "SnapTable$Axis" "at" "[J") (by decide +kernel)) (fun _ h9 => h9) rfl dX0_wallAll_53 ?_
          refine lv_iload hx hb dX0_wallAll_56 (lv_at hl 2 rfl) ?_
          refine lv_lload hx hb dX0_wallAll_58 (lv_at hl 0 rfl) ?_
          refine va_last hx hb hK hP hD hS 1 0 rfl rfl (by first | with_reducible assumption | with_reducible exact pt_in (by with_reducible assumption) | with_reducible exact ptm_in (by with_reducible assumption) | exact LU.vin (B := 8) hm (by decide) (by with_reducible assumption) (by decide) | exact LU.vin (B := 4) hm (by decide) (by with_reducible assumption) (by decide) | exact LU.vin (B := 16) hm (by decide) (by with_reducible assumption) (by decide) | exact vp_in_nI (n := 0) (by decide) (by decide) | with_reducible exact gdm_in (by with_reducible assumption) (by with_reducible assumption) | with_reducible exact gd_in (by with_reducible assumption) (by with_reducible assumption)) dX0_wallAll_60 (fun H locs hP hD hS => ?_)
          have hP : va_P (dC, dI) vwCl (WA x0 x1 k1 sl (v.1, v.2.1, v.2.2.1, (vp_updL v.2.2.2 i.toNatClampNeg (mX0_walled v (v.2.2.2 i.toNatClampNeg))))) H := hP
          have hD : va_D (va_A (WA x0 x1 k1 sl u) s.heap.size) (WA x0 x1 k1 sl (v.1, v.2.1, v.2.2.1, (vp_updL v.2.2.2 i.toNatClampNeg (mX0_walled v (v.2.2.2 i.toNatClampNeg))))) := hD
          refine lv_iinc (v := (i + 1)) (lv' := [(6, .int (i + 1)), (7, .long (mX0_walled v (v.2.2.2 i.toNatClampNeg))), (5, .int q), (0, .ref x0), (1, .long a0), (3, .long a1)]) hx hb dX0_wallAll_61 hl (k := 2) rfl rfl (by decide) rfl (fun ls hl => ?_)
          refine lv_goto (tgt := 16) hx hb dX0_wallAll_64 (by decide) ?_
          exact ih q (i + 1) (v.1, v.2.1, v.2.2.1, (vp_updL v.2.2.2 i.toNatClampNeg (mX0_walled v (v.2.2.2 i.toNatClampNeg)))) _ _ ls (LU.up (B := 8) (by decide) hm (by with_reducible assumption))  (by rw [← heq, mX0_wallAll_L, if_neg c_1, if_pos c_2]) hP hD hS (lv_sub hl [2, 0, 3, 4, 5] rfl)
        · refine lv_iinc (v := (q + 1)) (lv' := [(5, .int (q + 1)), (7, .long (mX0_walled v (v.2.2.2 i.toNatClampNeg))), (6, .int i), (0, .ref x0), (1, .long a0), (3, .long a1)]) hx hb dX0_wallAll_49 hl (k := 1) rfl rfl (by decide) rfl (fun ls hl => ?_)
          refine lv_aload_n hx hb dX0_wallAll_52 rfl (lv_at hl 3 rfl) ?_
          refine va_get (D := (dC, dI)) (ci := 0) (v := .ref x1) (C := RX0) (T := TX0) (N := 5) hx hb hts hin0 hown hK hP 0 rfl rfl 1 (by decide) (hts (.fieldLink RX0 9 "SnapTable$Axis" "at" "[J") (by decide +kernel)) (fun _ h9 => h9) rfl dX0_wallAll_53 ?_
          refine lv_iload hx hb dX0_wallAll_56 (lv_at hl 2 rfl) ?_
          refine lv_lload hx hb dX0_wallAll_58 (lv_at hl 1 rfl) ?_
          refine va_last hx hb hK hP hD hS 1 0 rfl rfl (by first | with_reducible assumption | with_reducible exact pt_in (by with_reducible assumption) | with_reducible exact ptm_in (by with_reducible assumption) | exact LU.vin (B := 8) hm (by decide) (by with_reducible assumption) (by decide) | exact LU.vin (B := 4) hm (by decide) (by with_reducible assumption) (by decide) | exact LU.vin (B := 16) hm (by decide) (by with_reducible assumption) (by decide) | exact vp_in_nI (n := 0) (by decide) (by decide) | with_reducible exact gdm_in (by with_reducible assumption) (by with_reducible assumption) | with_reducible exact gd_in (by with_reducible assumption) (by with_reducible assumption)) dX0_wallAll_60 (fun H locs hP hD hS => ?_)
          have hP : va_P (dC, dI) vwCl (WA x0 x1 k1 sl (v.1, v.2.1, v.2.2.1, (vp_updL v.2.2.2 i.toNatClampNeg (mX0_walled v (v.2.2.2 i.toNatClampNeg))))) H := hP
          have hD : va_D (va_A (WA x0 x1 k1 sl u) s.heap.size) (WA x0 x1 k1 sl (v.1, v.2.1, v.2.2.1, (vp_updL v.2.2.2 i.toNatClampNeg (mX0_walled v (v.2.2.2 i.toNatClampNeg))))) := hD
          refine lv_iinc (v := (i + 1)) (lv' := [(6, .int (i + 1)), (5, .int (q + 1)), (7, .long (mX0_walled v (v.2.2.2 i.toNatClampNeg))), (0, .ref x0), (1, .long a0), (3, .long a1)]) hx hb dX0_wallAll_61 hl (k := 2) rfl rfl (by decide) rfl (fun ls hl => ?_)
          refine lv_goto (tgt := 16) hx hb dX0_wallAll_64 (by decide) ?_
          exact ih (q + 1) (i + 1) (v.1, v.2.1, v.2.2.1, (vp_updL v.2.2.2 i.toNatClampNeg (mX0_walled v (v.2.2.2 i.toNatClampNeg)))) _ _ ls (LU.up (B := 8) (by decide) hm (by with_reducible assumption))  (by rw [← heq, mX0_wallAll_L, if_neg c_1, if_neg c_2]) hP hD hS (lv_sub hl [1, 0, 3, 4, 5] rfl)
  exact loop 9 (0 : Int32) (0 : Int32) (a0, a1, u.2.2.1, u.2.2.2) _ _ ls (by unfold LU; decide)  (by rw [mX0_wallAll]) hP hD hS (lv_sub hl [1, 0, 2, 3, 4] rfl)

def mX4_keep (u : RS) (a0 : Int32) (a1 : Int64) (a2 : Int64) : RS := (if (16 : Int32) ≤ u.2.1 then (((u.1 + (1 : Int32)) - (u.1 + (1 : Int32)) / (16 : Int32) * (16 : Int32)), u.2.1, (upd u.2.2.1 u.1.toNatClampNeg a0), (vp_updL u.2.2.2.1 u.1.toNatClampNeg a1), (vp_updL u.2.2.2.2 u.1.toNatClampNeg a2)) else (((u.1 + (1 : Int32)) - (u.1 + (1 : Int32)) / (16 : Int32) * (16 : Int32)), (u.2.1 + (1 : Int32)), (upd u.2.2.1 u.1.toNatClampNeg a0), (vp_updL u.2.2.2.1 u.1.toNatClampNeg a1), (vp_updL u.2.2.2.2 u.1.toNatClampNeg a2)))
set_option maxHeartbeats 4000000 in
set_option maxRecDepth 100000 in
theorem ct_X4_keep (l : Launch) (dC : Nat → ClassId) (dI : Nat → Nat → Nat) (x0 x1 x2 x3 : Nat) (k1 k2 k3 : ClassId) (sz : Nat) (u : RS) (a0 : Int32) (a1 : Int64) (a2 : Int64) (hn : vp_in u.1 16) : Met l yX4_keep wsX4_keep { frames := 0, cells := 0, slots := 0, locals := 0 } (pM (dC, dI) vwCl [(k1, .int), (k2, .long), (k3, .long)] (WR x0 x1 x2 x3 k1 k2 k3 u) sz [.ref x0, .int a0, .long a1, .long a2]) (qM (dC, dI) vwCl (WR x0 x1 x2 x3 k1 k2 k3 u) sz none (WR x0 x1 x2 x3 k1 k2 k3 (mX4_keep u a0 a1 a2))) 0 0 (va_A (WR x0 x1 x2 x3 k1 k2 k3 u) sz) := by
  refine Met.ofW (cc := cX4_keep) (maxL := 6) (ret := none) (by decide) rfl ?_
  intro p e s m args below meth c s₁ B hml hv
  obtain ⟨rfl, hsz, hP, hK, hD0, hNW⟩ := hv
  subst hsz
  have hx := B.exec
  have hb := B.bytes
  have hr := B.returns
  have hts := atoms_spec (ws := wsX4_keep) B.pre
  have hown : s.vm.findClass RX4 = some m.cls := findClass_of_methodNamed B.named
  have hlocks := B.notSynchronized
  have hin4 : ∀ w ∈ wsX40, w ∈ wsX4_keep := by decide +kernel
  have hD : va_D (va_A (WR x0 x1 x2 x3 k1 k2 k3 u) s.heap.size) (WR x0 x1 x2 x3 k1 k2 k3 u) := hD0.self
  have hA : ∀ q : Nat, s.heap.size ≤ q → va_A (WR x0 x1 x2 x3 k1 k2 k3 u) s.heap.size q := fun q h => Or.inr h
  have hS : va_S (va_A (WR x0 x1 x2 x3 k1 k2 k3 u) s.heap.size) s.heap s.heap [] := va_S.rf
  have hl := lv_entry ([.ref x0, .int a0, .long a1, .long a2]) (n := 6) (Nat.le_of_ble_eq_true rfl)
  rw [lg_entry_eq]
  generalize (lg_sl ([.ref x0, .int a0, .long a1, .long a2]) ++ List.replicate (6 - (lg_sl ([.ref x0, .int a0, .long a1, .long a2])).length) Slot.unset).toArray = ls at hl ⊢
  have hl : lv_has ls 6 [(0, .ref x0), (1, .int a0), (2, .long a1), (4, .long a2)] := hl
  refine lv_aload_n hx hb dX4_keep_0 rfl (lv_at hl 0 rfl) ?_
  refine va_get (D := (dC, dI)) (ci := 1) (v := .ref x1) (C := RX4) (T := TX4) (N := 5) hx hb hts hin4 hown hK hP 0 rfl rfl 0 (by decide) (hts (.fieldLink RX4 9 "SnapTable$Trail" "points" "[I") (by decide +kernel)) (fun _ h9 => h9) rfl dX4_keep_1 ?_
  refine lv_aload_n hx hb dX4_keep_4 rfl (lv_at hl 0 rfl) ?_
  refine va_get (D := (dC, dI)) (ci := 1) (v := .int u.1) (C := RX4) (T := TX4) (N := 5) hx hb hts hin4 hown hK hP 0 rfl rfl 3 (by decide) (hts (.fieldLink RX4 20 "SnapTable$Trail" "next" "I") (by decide +kernel)) (fun _ h9 => h9) rfl dX4_keep_5 ?_
  refine lv_iload_n hx hb dX4_keep_8 rfl (lv_at hl 1 rfl) ?_
  refine va_iast hx hb hK hP hD hS 1 0 rfl rfl (by first | with_reducible assumption | with_reducible exact pt_in (by with_reducible assumption) | with_reducible exact ptm_in (by with_reducible assumption) | exact LU.vin (B := 8) hm (by decide) (by with_reducible assumption) (by decide) | exact LU.vin (B := 4) hm (by decide) (by with_reducible assumption) (by decide) | exact LU.vin (B := 16) hm (by decide) (by with_reducible assumption) (by decide) | exact vp_in_nI (n := 0) (by decide) (by decide) | with_reducible exact gdm_in (by with_reducible assumption) (by with_reducible assumption) | with_reducible exact gd_in (by with_reducible assumption) (by with_reducible assumption)) dX4_keep_9 (fun H locs hP hD hS => ?_)
  have hP : va_P (dC, dI) vwCl (WR x0 x1 x2 x3 k1 k2 k3 (u.1, u.2.1, (upd u.2.2.1 u.1.toNatClampNeg a0), u.2.2.2.1, u.2.2.2.2)) H := hP
  have hD : va_D (va_A (WR x0 x1 x2 x3 k1 k2 k3 u) s.heap.size) (WR x0 x1 x2 x3 k1 k2 k3 (u.1, u.2.1, (upd u.2.2.1 u.1.toNatClampNeg a0), u.2.2.2.1, u.2.2.2.2)) := hD
  refine lv_aload_n hx hb dX4_keep_10 rfl (lv_at hl 0 rfl) ?_
  refine va_get (D := (dC, dI)) (ci := 1) (v := .ref x2) (C := RX4) (T := TX4) (N := 5) hx hb hts hin4 hown hK hP 0 rfl rfl 1 (by decide) (hts (.fieldLink RX4 13 "SnapTable$Trail" "widths" "[J") (by decide +kernel)) (fun _ h9 => h9) rfl dX4_keep_11 ?_
  refine lv_aload_n hx hb dX4_keep_14 rfl (lv_at hl 0 rfl) ?_
  refine va_get (D := (dC, dI)) (ci := 1) (v := .int u.1) (C := RX4) (T := TX4) (N := 5) hx hb hts hin4 hown hK hP 0 rfl rfl 3 (by decide) (hts (.fieldLink RX4 20 "SnapTable$Trail" "next" "I") (by decide +kernel)) (fun _ h9 => h9) rfl dX4_keep_15 ?_
  refine lv_lload_n hx hb dX4_keep_18 rfl (lv_at hl 2 rfl) ?_
  refine va_last hx hb hK hP hD hS 2 1 rfl rfl (by first | with_reducible assumption | with_reducible exact pt_in (by with_reducible assumption) | with_reducible exact ptm_in (by with_reducible assumption) | exact LU.vin (B := 8) hm (by decide) (by with_reducible assumption) (by decide) | exact LU.vin (B := 4) hm (by decide) (by with_reducible assumption) (by decide) | exact LU.vin (B := 16) hm (by decide) (by with_reducible assumption) (by decide) | exact vp_in_nI (n := 0) (by decide) (by decide) | with_reducible exact gdm_in (by with_reducible assumption) (by with_reducible assumption) | with_reducible exact gd_in (by with_reducible assumption) (by with_reducible assumption)) dX4_keep_19 (fun H locs hP hD hS => ?_)
  have hP : va_P (dC, dI) vwCl (WR x0 x1 x2 x3 k1 k2 k3 (u.1, u.2.1, (upd u.2.2.1 u.1.toNatClampNeg a0), (vp_updL u.2.2.2.1 u.1.toNatClampNeg a1), u.2.2.2.2)) H := hP
  have hD : va_D (va_A (WR x0 x1 x2 x3 k1 k2 k3 u) s.heap.size) (WR x0 x1 x2 x3 k1 k2 k3 (u.1, u.2.1, (upd u.2.2.1 u.1.toNatClampNeg a0), (vp_updL u.2.2.2.1 u.1.toNatClampNeg a1), u.2.2.2.2)) := hD
  refine lv_aload_n hx hb dX4_keep_20 rfl (lv_at hl 0 rfl) ?_
  refine va_get (D := (dC, dI)) (ci := 1) (v := .ref x3) (C := RX4) (T := TX4) (N := 5) hx hb hts hin4 hown hK hP 0 rfl rfl 2 (by decide) (hts (.fieldLink RX4 17 "SnapTable$Trail" "heights" "[J") (by decide +kernel)) (fun _ h9 => h9) rfl dX4_keep_21 ?_
  refine lv_aload_n hx hb dX4_keep_24 rfl (lv_at hl 0 rfl) ?_
  refine va_get (D := (dC, dI)) (ci := 1) (v := .int u.1) (C := RX4) (T := TX4) (N := 5) hx hb hts hin4 hown hK hP 0 rfl rfl 3 (by decide) (hts (.fieldLink RX4 20 "SnapTable$Trail" "next" "I") (by decide +kernel)) (fun _ h9 => h9) rfl dX4_keep_25 ?_
  refine lv_lload hx hb dX4_keep_28 (lv_at hl 3 rfl) ?_
  refine va_last hx hb hK hP hD hS 3 2 rfl rfl (by first | with_reducible assumption | with_reducible exact pt_in (by with_reducible assumption) | with_reducible exact ptm_in (by with_reducible assumption) | exact LU.vin (B := 8) hm (by decide) (by with_reducible assumption) (by decide) | exact LU.vin (B := 4) hm (by decide) (by with_reducible assumption) (by decide) | exact LU.vin (B := 16) hm (by decide) (by with_reducible assumption) (by decide) | exact vp_in_nI (n := 0) (by decide) (by decide) | with_reducible exact gdm_in (by with_reducible assumption) (by with_reducible assumption) | with_reducible exact gd_in (by with_reducible assumption) (by with_reducible assumption)) dX4_keep_30 (fun H locs hP hD hS => ?_)
  have hP : va_P (dC, dI) vwCl (WR x0 x1 x2 x3 k1 k2 k3 (u.1, u.2.1, (upd u.2.2.1 u.1.toNatClampNeg a0), (vp_updL u.2.2.2.1 u.1.toNatClampNeg a1), (vp_updL u.2.2.2.2 u.1.toNatClampNeg a2))) H := hP
  have hD : va_D (va_A (WR x0 x1 x2 x3 k1 k2 k3 u) s.heap.size) (WR x0 x1 x2 x3 k1 k2 k3 (u.1, u.2.1, (upd u.2.2.1 u.1.toNatClampNeg a0), (vp_updL u.2.2.2.1 u.1.toNatClampNeg a1), (vp_updL u.2.2.2.2 u.1.toNatClampNeg a2))) := hD
  refine lv_aload_n hx hb dX4_keep_31 rfl (lv_at hl 0 rfl) ?_
  refine lv_aload_n hx hb dX4_keep_32 rfl (lv_at hl 0 rfl) ?_
  refine va_get (D := (dC, dI)) (ci := 1) (v := .int u.1) (C := RX4) (T := TX4) (N := 5) hx hb hts hin4 hown hK hP 0 rfl rfl 3 (by decide) (hts (.fieldLink RX4 20 "SnapTable$Trail" "next" "I") (by decide +kernel)) (fun _ h9 => h9) rfl dX4_keep_33 ?_
  refine lv_iconst (v := (1 : Int32)) hx hb dX4_keep_36 (by decide) ?_
  refine lv_iadd hx hb dX4_keep_37 ?_
  refine lv_bipush (v := (16 : Int32)) hx hb dX4_keep_38 (by decide) ?_
  refine lv_irem hx hb dX4_keep_40 (by decide) ?_
  refine va_put (D := (dC, dI)) (ci := 1) (v := .int ((u.1 + (1 : Int32)) - (u.1 + (1 : Int32)) / (16 : Int32) * (16 : Int32))) (ty := .int) (C := RX4) (T := TX4) (N := 5) hx hb hts hin4 tyX4 tyX4_ok nmX4 hown hK hP hD hS 0 rfl rfl 3 (by decide) (hts (.fieldLink RX4 20 "SnapTable$Trail" "next" "I") (by decide +kernel)) (fun _ h9 => h9) rfl (by decide +kernel) rfl rfl (Nat.le_of_ble_eq_true rfl) dX4_keep_41 (fun H locs hP hD hS => ?_)
  have hP : va_P (dC, dI) vwCl (WR x0 x1 x2 x3 k1 k2 k3 (((u.1 + (1 : Int32)) - (u.1 + (1 : Int32)) / (16 : Int32) * (16 : Int32)), u.2.1, (upd u.2.2.1 u.1.toNatClampNeg a0), (vp_updL u.2.2.2.1 u.1.toNatClampNeg a1), (vp_updL u.2.2.2.2 u.1.toNatClampNeg a2))) H := hP
  have hD : va_D (va_A (WR x0 x1 x2 x3 k1 k2 k3 u) s.heap.size) (WR x0 x1 x2 x3 k1 k2 k3 (((u.1 + (1 : Int32)) - (u.1 + (1 : Int32)) / (16 : Int32) * (16 : Int32)), u.2.1, (upd u.2.2.1 u.1.toNatClampNeg a0), (vp_updL u.2.2.2.1 u.1.toNatClampNeg a1), (vp_updL u.2.2.2.2 u.1.toNatClampNeg a2))) := hD
  refine lv_aload_n hx hb dX4_keep_44 rfl (lv_at hl 0 rfl) ?_
  refine va_get (D := (dC, dI)) (ci := 1) (v := .int u.2.1) (C := RX4) (T := TX4) (N := 5) hx hb hts hin4 hown hK hP 0 rfl rfl 4 (by decide) (hts (.fieldLink RX4 24 "SnapTable$Trail" "size" "I") (by decide +kernel)) (fun _ h9 => h9) rfl dX4_keep_45 ?_
  refine lv_bipush (v := (16 : Int32)) hx hb dX4_keep_48 (by decide) ?_
  refine lv_icmp_ge (tgt := 63) hx hb dX4_keep_50 (by decide) (fun c_1 => ?_) (fun c_1 => ?_)
  · have he : mX4_keep u a0 a1 a2 = (((u.1 + (1 : Int32)) - (u.1 + (1 : Int32)) / (16 : Int32) * (16 : Int32)), u.2.1, (upd u.2.2.1 u.1.toNatClampNeg a0), (vp_updL u.2.2.2.1 u.1.toNatClampNeg a1), (vp_updL u.2.2.2.2 u.1.toNatClampNeg a2)) := by rw [mX4_keep, if_pos c_1]
    exact rM_v hx hb hr hlocks hP hD hS (by rw [he]) dX4_keep_63
  · refine lv_aload_n hx hb dX4_keep_53 rfl (lv_at hl 0 rfl) ?_
    refine lv_dup hx hb dX4_keep_54 rfl ?_
    refine va_get (D := (dC, dI)) (ci := 1) (v := .int u.2.1) (C := RX4) (T := TX4) (N := 5) hx hb hts hin4 hown hK hP 0 rfl rfl 4 (by decide) (hts (.fieldLink RX4 24 "SnapTable$Trail" "size" "I") (by decide +kernel)) (fun _ h9 => h9) rfl dX4_keep_55 ?_
    refine lv_iconst (v := (1 : Int32)) hx hb dX4_keep_58 (by decide) ?_
    refine lv_iadd hx hb dX4_keep_59 ?_
    refine va_put (D := (dC, dI)) (ci := 1) (v := .int (u.2.1 + (1 : Int32))) (ty := .int) (C := RX4) (T := TX4) (N := 5) hx hb hts hin4 tyX4 tyX4_ok nmX4 hown hK hP hD hS 0 rfl rfl 4 (by decide) (hts (.fieldLink RX4 24 "SnapTable$Trail" "size" "I") (by decide +kernel)) (fun _ h9 => h9) rfl (by decide +kernel) rfl rfl (Nat.le_of_ble_eq_true rfl) dX4_keep_60 (fun H locs hP hD hS => ?_)
    have hP : va_P (dC, dI) vwCl (WR x0 x1 x2 x3 k1 k2 k3 (((u.1 + (1 : Int32)) - (u.1 + (1 : Int32)) / (16 : Int32) * (16 : Int32)), (u.2.1 + (1 : Int32)), (upd u.2.2.1 u.1.toNatClampNeg a0), (vp_updL u.2.2.2.1 u.1.toNatClampNeg a1), (vp_updL u.2.2.2.2 u.1.toNatClampNeg a2))) H := hP
    have hD : va_D (va_A (WR x0 x1 x2 x3 k1 k2 k3 u) s.heap.size) (WR x0 x1 x2 x3 k1 k2 k3 (((u.1 + (1 : Int32)) - (u.1 + (1 : Int32)) / (16 : Int32) * (16 : Int32)), (u.2.1 + (1 : Int32)), (upd u.2.2.1 u.1.toNatClampNeg a0), (vp_updL u.2.2.2.1 u.1.toNatClampNeg a1), (vp_updL u.2.2.2.2 u.1.toNatClampNeg a2))) := hD
    have he : mX4_keep u a0 a1 a2 = (((u.1 + (1 : Int32)) - (u.1 + (1 : Int32)) / (16 : Int32) * (16 : Int32)), (u.2.1 + (1 : Int32)), (upd u.2.2.1 u.1.toNatClampNeg a0), (vp_updL u.2.2.2.1 u.1.toNatClampNeg a1), (vp_updL u.2.2.2.2 u.1.toNatClampNeg a2)) := by rw [mX4_keep, if_neg c_1]
    exact rM_v hx hb hr hlocks hP hD hS (by rw [he]) dX4_keep_63

def mX4_takeLatest (u : RS) : Int32 × RS := ((((u.1 + (16 : Int32)) - (1 : Int32)) - ((u.1 + (16 : Int32)) - (1 : Int32)) / (16 : Int32) * (16 : Int32)), ((((u.1 + (16 : Int32)) - (1 : Int32)) - ((u.1 + (16 : Int32)) - (1 : Int32)) / (16 : Int32) * (16 : Int32)), (u.2.1 - (1 : Int32)), u.2.2.1, u.2.2.2.1, u.2.2.2.2))
set_option maxHeartbeats 4000000 in
set_option maxRecDepth 100000 in
theorem ct_X4_takeLatest (l : Launch) (dC : Nat → ClassId) (dI : Nat → Nat → Nat) (x0 x1 x2 x3 : Nat) (k1 k2 k3 : ClassId) (sz : Nat) (u : RS) : Met l yX4_takeLatest wsX4_takeLatest { frames := 0, cells := 0, slots := 0, locals := 0 } (pM (dC, dI) vwCl [(k1, .int), (k2, .long), (k3, .long)] (WR x0 x1 x2 x3 k1 k2 k3 u) sz [.ref x0]) (qM (dC, dI) vwCl (WR x0 x1 x2 x3 k1 k2 k3 u) sz (some (.int (mX4_takeLatest u).1)) (WR x0 x1 x2 x3 k1 k2 k3 (mX4_takeLatest u).2)) 0 0 (va_A (WR x0 x1 x2 x3 k1 k2 k3 u) sz) := by
  refine Met.ofW (cc := cX4_takeLatest) (maxL := 1) (ret := (some .int)) (by decide) rfl ?_
  intro p e s m args below meth c s₁ B hml hv
  obtain ⟨rfl, hsz, hP, hK, hD0, hNW⟩ := hv
  subst hsz
  have hx := B.exec
  have hb := B.bytes
  have hr := B.returns
  have hts := atoms_spec (ws := wsX4_takeLatest) B.pre
  have hown : s.vm.findClass RX4 = some m.cls := findClass_of_methodNamed B.named
  have hlocks := B.notSynchronized
  have hin4 : ∀ w ∈ wsX40, w ∈ wsX4_takeLatest := by decide +kernel
  have hD : va_D (va_A (WR x0 x1 x2 x3 k1 k2 k3 u) s.heap.size) (WR x0 x1 x2 x3 k1 k2 k3 u) := hD0.self
  have hA : ∀ q : Nat, s.heap.size ≤ q → va_A (WR x0 x1 x2 x3 k1 k2 k3 u) s.heap.size q := fun q h => Or.inr h
  have hS : va_S (va_A (WR x0 x1 x2 x3 k1 k2 k3 u) s.heap.size) s.heap s.heap [] := va_S.rf
  have hl := lv_entry ([.ref x0]) (n := 1) (Nat.le_of_ble_eq_true rfl)
  rw [lg_entry_eq]
  generalize (lg_sl ([.ref x0]) ++ List.replicate (1 - (lg_sl ([.ref x0])).length) Slot.unset).toArray = ls at hl ⊢
  have hl : lv_has ls 1 [(0, .ref x0)] := hl
  refine lv_aload_n hx hb dX4_takeLatest_0 rfl (lv_at hl 0 rfl) ?_
  refine lv_aload_n hx hb dX4_takeLatest_1 rfl (lv_at hl 0 rfl) ?_
  refine va_get (D := (dC, dI)) (ci := 1) (v := .int u.1) (C := RX4) (T := TX4) (N := 5) hx hb hts hin4 hown hK hP 0 rfl rfl 3 (by decide) (hts (.fieldLink RX4 20 "SnapTable$Trail" "next" "I") (by decide +kernel)) (fun _ h9 => h9) rfl dX4_takeLatest_2 ?_
  refine lv_bipush (v := (16 : Int32)) hx hb dX4_takeLatest_5 (by decide) ?_
  refine lv_iadd hx hb dX4_takeLatest_7 ?_
  refine lv_iconst (v := (1 : Int32)) hx hb dX4_takeLatest_8 (by decide) ?_
  refine lv_isub hx hb dX4_takeLatest_9 ?_
  refine lv_bipush (v := (16 : Int32)) hx hb dX4_takeLatest_10 (by decide) ?_
  refine lv_irem hx hb dX4_takeLatest_12 (by decide) ?_
  refine va_put (D := (dC, dI)) (ci := 1) (v := .int (((u.1 + (16 : Int32)) - (1 : Int32)) - ((u.1 + (16 : Int32)) - (1 : Int32)) / (16 : Int32) * (16 : Int32))) (ty := .int) (C := RX4) (T := TX4) (N := 5) hx hb hts hin4 tyX4 tyX4_ok nmX4 hown hK hP hD hS 0 rfl rfl 3 (by decide) (hts (.fieldLink RX4 20 "SnapTable$Trail" "next" "I") (by decide +kernel)) (fun _ h9 => h9) rfl (by decide +kernel) rfl rfl (Nat.le_of_ble_eq_true rfl) dX4_takeLatest_13 (fun H locs hP hD hS => ?_)
  have hP : va_P (dC, dI) vwCl (WR x0 x1 x2 x3 k1 k2 k3 ((((u.1 + (16 : Int32)) - (1 : Int32)) - ((u.1 + (16 : Int32)) - (1 : Int32)) / (16 : Int32) * (16 : Int32)), u.2.1, u.2.2.1, u.2.2.2.1, u.2.2.2.2)) H := hP
  have hD : va_D (va_A (WR x0 x1 x2 x3 k1 k2 k3 u) s.heap.size) (WR x0 x1 x2 x3 k1 k2 k3 ((((u.1 + (16 : Int32)) - (1 : Int32)) - ((u.1 + (16 : Int32)) - (1 : Int32)) / (16 : Int32) * (16 : Int32)), u.2.1, u.2.2.1, u.2.2.2.1, u.2.2.2.2)) := hD
  refine lv_aload_n hx hb dX4_takeLatest_16 rfl (lv_at hl 0 rfl) ?_
  refine lv_dup hx hb dX4_takeLatest_17 rfl ?_
  refine va_get (D := (dC, dI)) (ci := 1) (v := .int u.2.1) (C := RX4) (T := TX4) (N := 5) hx hb hts hin4 hown hK hP 0 rfl rfl 4 (by decide) (hts (.fieldLink RX4 24 "SnapTable$Trail" "size" "I") (by decide +kernel)) (fun _ h9 => h9) rfl dX4_takeLatest_18 ?_
  refine lv_iconst (v := (1 : Int32)) hx hb dX4_takeLatest_21 (by decide) ?_
  refine lv_isub hx hb dX4_takeLatest_22 ?_
  refine va_put (D := (dC, dI)) (ci := 1) (v := .int (u.2.1 - (1 : Int32))) (ty := .int) (C := RX4) (T := TX4) (N := 5) hx hb hts hin4 tyX4 tyX4_ok nmX4 hown hK hP hD hS 0 rfl rfl 4 (by decide) (hts (.fieldLink RX4 24 "SnapTable$Trail" "size" "I") (by decide +kernel)) (fun _ h9 => h9) rfl (by decide +kernel) rfl rfl (Nat.le_of_ble_eq_true rfl) dX4_takeLatest_23 (fun H locs hP hD hS => ?_)
  have hP : va_P (dC, dI) vwCl (WR x0 x1 x2 x3 k1 k2 k3 ((((u.1 + (16 : Int32)) - (1 : Int32)) - ((u.1 + (16 : Int32)) - (1 : Int32)) / (16 : Int32) * (16 : Int32)), (u.2.1 - (1 : Int32)), u.2.2.1, u.2.2.2.1, u.2.2.2.2)) H := hP
  have hD : va_D (va_A (WR x0 x1 x2 x3 k1 k2 k3 u) s.heap.size) (WR x0 x1 x2 x3 k1 k2 k3 ((((u.1 + (16 : Int32)) - (1 : Int32)) - ((u.1 + (16 : Int32)) - (1 : Int32)) / (16 : Int32) * (16 : Int32)), (u.2.1 - (1 : Int32)), u.2.2.1, u.2.2.2.1, u.2.2.2.2)) := hD
  refine lv_aload_n hx hb dX4_takeLatest_26 rfl (lv_at hl 0 rfl) ?_
  refine va_get (D := (dC, dI)) (ci := 1) (v := .int (((u.1 + (16 : Int32)) - (1 : Int32)) - ((u.1 + (16 : Int32)) - (1 : Int32)) / (16 : Int32) * (16 : Int32))) (C := RX4) (T := TX4) (N := 5) hx hb hts hin4 hown hK hP 0 rfl rfl 3 (by decide) (hts (.fieldLink RX4 20 "SnapTable$Trail" "next" "I") (by decide +kernel)) (fun _ h9 => h9) rfl dX4_takeLatest_27 ?_
  have he : mX4_takeLatest u = ((((u.1 + (16 : Int32)) - (1 : Int32)) - ((u.1 + (16 : Int32)) - (1 : Int32)) / (16 : Int32) * (16 : Int32)), ((((u.1 + (16 : Int32)) - (1 : Int32)) - ((u.1 + (16 : Int32)) - (1 : Int32)) / (16 : Int32) * (16 : Int32)), (u.2.1 - (1 : Int32)), u.2.2.1, u.2.2.2.1, u.2.2.2.2)) := by rw [mX4_takeLatest]
  exact rM_i hx hb hr hlocks hP hD hS (by rw [he]) (by rw [he]) dX4_takeLatest_30

def mX4_clear (u : RS) : RS := (u.1, (0 : Int32), u.2.2.1, u.2.2.2.1, u.2.2.2.2)
set_option maxHeartbeats 4000000 in
set_option maxRecDepth 100000 in
theorem ct_X4_clear (l : Launch) (dC : Nat → ClassId) (dI : Nat → Nat → Nat) (x0 x1 x2 x3 : Nat) (k1 k2 k3 : ClassId) (sz : Nat) (u : RS) : Met l yX4_clear wsX4_clear { frames := 0, cells := 0, slots := 0, locals := 0 } (pM (dC, dI) vwCl [(k1, .int), (k2, .long), (k3, .long)] (WR x0 x1 x2 x3 k1 k2 k3 u) sz [.ref x0]) (qM (dC, dI) vwCl (WR x0 x1 x2 x3 k1 k2 k3 u) sz none (WR x0 x1 x2 x3 k1 k2 k3 (mX4_clear u))) 0 0 (va_A (WR x0 x1 x2 x3 k1 k2 k3 u) sz) := by
  refine Met.ofW (cc := cX4_clear) (maxL := 1) (ret := none) (by decide) rfl ?_
  intro p e s m args below meth c s₁ B hml hv
  obtain ⟨rfl, hsz, hP, hK, hD0, hNW⟩ := hv
  subst hsz
  have hx := B.exec
  have hb := B.bytes
  have hr := B.returns
  have hts := atoms_spec (ws := wsX4_clear) B.pre
  have hown : s.vm.findClass RX4 = some m.cls := findClass_of_methodNamed B.named
  have hlocks := B.notSynchronized
  have hin4 : ∀ w ∈ wsX40, w ∈ wsX4_clear := by decide +kernel
  have hD : va_D (va_A (WR x0 x1 x2 x3 k1 k2 k3 u) s.heap.size) (WR x0 x1 x2 x3 k1 k2 k3 u) := hD0.self
  have hA : ∀ q : Nat, s.heap.size ≤ q → va_A (WR x0 x1 x2 x3 k1 k2 k3 u) s.heap.size q := fun q h => Or.inr h
  have hS : va_S (va_A (WR x0 x1 x2 x3 k1 k2 k3 u) s.heap.size) s.heap s.heap [] := va_S.rf
  have hl := lv_entry ([.ref x0]) (n := 1) (Nat.le_of_ble_eq_true rfl)
  rw [lg_entry_eq]
  generalize (lg_sl ([.ref x0]) ++ List.replicate (1 - (lg_sl ([.ref x0])).length) Slot.unset).toArray = ls at hl ⊢
  have hl : lv_has ls 1 [(0, .ref x0)] := hl
  refine lv_aload_n hx hb dX4_clear_0 rfl (lv_at hl 0 rfl) ?_
  refine lv_iconst (v := (0 : Int32)) hx hb dX4_clear_1 (by decide) ?_
  refine va_put (D := (dC, dI)) (ci := 1) (v := .int (0 : Int32)) (ty := .int) (C := RX4) (T := TX4) (N := 5) hx hb hts hin4 tyX4 tyX4_ok nmX4 hown hK hP hD hS 0 rfl rfl 4 (by decide) (hts (.fieldLink RX4 24 "SnapTable$Trail" "size" "I") (by decide +kernel)) (fun _ h9 => h9) rfl (by decide +kernel) rfl rfl (Nat.le_of_ble_eq_true rfl) dX4_clear_2 (fun H locs hP hD hS => ?_)
  have hP : va_P (dC, dI) vwCl (WR x0 x1 x2 x3 k1 k2 k3 (u.1, (0 : Int32), u.2.2.1, u.2.2.2.1, u.2.2.2.2)) H := hP
  have hD : va_D (va_A (WR x0 x1 x2 x3 k1 k2 k3 u) s.heap.size) (WR x0 x1 x2 x3 k1 k2 k3 (u.1, (0 : Int32), u.2.2.1, u.2.2.2.1, u.2.2.2.2)) := hD
  have he : mX4_clear u = (u.1, (0 : Int32), u.2.2.1, u.2.2.2.1, u.2.2.2.2) := by rw [mX4_clear]
  exact rM_v hx hb hr hlocks hP hD hS (by rw [he]) dX4_clear_5
