def mX6_nearestGuide_L (u : TS) (a0 : Int64) : Nat → Int32 → UInt64 → Int32 → Int32
  | 0, _, _, _ => default
  | n + 1, q, v, i => (if (4 : Int32) ≤ i then q else (if (mX1_isInfinite (u.2.2.2.2.2.2 i.toNatClampNeg)) = 0 then (if q = (-1 : Int32) then (mX6_nearestGuide_L u a0 n i (mX0_apart_w u.2.2.2.1 a0 (u.2.2.2.2.2.2 i.toNatClampNeg)) (i + 1)) else (if 0 ≤ (Op.cmpValue (FP.dcmp (mX0_apart_w u.2.2.2.1 a0 (u.2.2.2.2.2.2 i.toNatClampNeg)) v) .g) then (mX6_nearestGuide_L u a0 n q v (i + 1)) else (mX6_nearestGuide_L u a0 n i (mX0_apart_w u.2.2.2.1 a0 (u.2.2.2.2.2.2 i.toNatClampNeg)) (i + 1)))) else (mX6_nearestGuide_L u a0 n q v (i + 1))))
def mX6_nearestGuide (u : TS) (a0 : Int64) : Int32 := (mX6_nearestGuide_L u a0 5 (-1 : Int32) FP.dconst0 (0 : Int32))
set_option maxHeartbeats 4000000 in
set_option maxRecDepth 100000 in
theorem ct_X6_nearestGuide (l : Launch) (dC : Nat → ClassId) (dI : Nat → Nat → Nat) (ad : Nat → Nat) (ca : Nat → ClassId) (u : TS) (a0 : Int64) (hg : ∀ g : Int32, vp_in g 4 → mX1_isInfinite (u.2.2.2.2.2.2 g.toNatClampNeg) = 0 → FP.dIsNaN (FP.dsub (mX1_value a0) (mX1_value (u.2.2.2.2.2.2 g.toNatClampNeg))) = false) : Met l yX6_nearestGuide wsX6_nearestGuide { frames := 5, cells := 0, slots := 0, locals := 123 } (pR (dC, dI) vwCl [((ca 4), .long), ((ca 5), .long), ((ca 6), .long), ((ca 7), .int), ((ca 8), .long), ((ca 9), .long)] (WT ad ca u) [.ref (ad 0), .long a0]) (k2_QcV (.int (mX6_nearestGuide u a0))) 0 0 (fun _ => False) := by
  refine Met.ofW (cc := cX6_nearestGuide) (maxL := 9) (ret := (some .int)) (by decide) rfl ?_
  intro p e s m args below meth c s₁ B hml hv
  obtain ⟨rfl, hP, hK, hNW⟩ := hv
  have hx := B.exec
  have hb := B.bytes
  have hr := B.returns
  have hts := atoms_spec (ws := wsX6_nearestGuide) B.pre
  have hown : s.vm.findClass RX6 = some m.cls := findClass_of_methodNamed B.named
  have hlocks := B.notSynchronized
  have hin6 : ∀ w ∈ wsX60, w ∈ wsX6_nearestGuide := by decide +kernel
  have hl := lv_entry ([.ref (ad 0), .long a0]) (n := 9) (Nat.le_of_ble_eq_true rfl)
  rw [lg_entry_eq]
  generalize (lg_sl ([.ref (ad 0), .long a0]) ++ List.replicate (9 - (lg_sl ([.ref (ad 0), .long a0])).length) Slot.unset).toArray = ls at hl ⊢
  have hl : lv_has ls 9 [(0, .ref (ad 0)), (1, .long a0)] := hl
  refine lv_iconst (v := (-1 : Int32)) hx hb dX6_nearestGuide_0 (by decide) ?_
  refine lv_istore_n (lv' := [(3, .int (-1 : Int32)), (0, .ref (ad 0)), (1, .long a0)]) hx hb dX6_nearestGuide_1 rfl hl (by decide) rfl (fun ls hl => ?_)
  refine lv_dconst0 hx hb dX6_nearestGuide_2 ?_
  refine lv_dstore (lv' := [(4, .double FP.dconst0), (3, .int (-1 : Int32)), (0, .ref (ad 0)), (1, .long a0)]) hx hb dX6_nearestGuide_3 hl (by decide) rfl (fun ls hl => ?_)
  refine lv_iconst (v := (0 : Int32)) hx hb dX6_nearestGuide_5 (by decide) ?_
  refine lv_istore (lv' := [(6, .int (0 : Int32)), (4, .double FP.dconst0), (3, .int (-1 : Int32)), (0, .ref (ad 0)), (1, .long a0)]) hx hb dX6_nearestGuide_6 hl (by decide) rfl (fun ls hl => ?_)
  have loop : ∀ (n : Nat) (q : Int32) (v : UInt64) (i : Int32) (ls : Array Slot), LU 4 n i → mX6_nearestGuide_L u a0 n q v i = mX6_nearestGuide u a0 → lv_has ls 9 [(3, .int q), (4, .double v), (6, .int i), (0, .ref (ad 0)), (1, .long a0)] → W p l e (headSpec wsX6_nearestGuide { frames := 5, cells := 0, slots := 0, locals := 123 }).room s m ([.ref (ad 0), .long a0] : List Value).toArray below meth c s.heap [] 0 0 (MQ below (k2_QcV (.int (mX6_nearestGuide u a0))) ([.ref (ad 0), .long a0] : List Value).toArray s 0 0 (fun _ => False)) (F0 m 8 ls []) := by
    intro n
    induction n with
    | zero => intro q v i ls hm; exact absurd hm (fun h => h.z)
    | succ n ih =>
      intro q v i ls hm  heq hl
      refine lv_iload hx hb dX6_nearestGuide_8 (lv_at hl 2 rfl) ?_
      refine lv_iconst (v := (4 : Int32)) hx hb dX6_nearestGuide_10 (by decide) ?_
      refine lv_icmp_ge (tgt := 70) hx hb dX6_nearestGuide_11 (by decide) (fun c_1 => ?_) (fun c_1 => ?_)
      · refine lv_iload_n hx hb dX6_nearestGuide_70 rfl (lv_at hl 0 rfl) ?_
        exact W.iret (v := q) hx hb hr (fun t ht _ => ⟨by rw [← heq, mX6_nearestGuide_L, if_pos c_1], ht⟩) (fun _ h => by cases h) dX6_nearestGuide_71
      · refine lv_aload_n hx hb dX6_nearestGuide_14 rfl (lv_at hl 3 rfl) ?_
        refine va_get (D := (dC, dI)) (ci := 2) (v := .ref (ad 4)) (C := RX6) (T := TX6) (N := 7) hx hb hts hin6 hown hK hP 0 rfl rfl 3 (by decide) (hts (.fieldLink RX6 28 "SnapTable" "guides" "[J") (by decide +kernel)) (fun _ h9 => h9) rfl dX6_nearestGuide_15 ?_
        refine lv_iload hx hb dX6_nearestGuide_18 (lv_at hl 2 rfl) ?_
        refine va_lald hx hb hK hP 4 0 rfl rfl (by first | with_reducible assumption | with_reducible exact pt_in (by with_reducible assumption) | with_reducible exact ptm_in (by with_reducible assumption) | exact LU.vin (B := 8) hm (by decide) (by with_reducible assumption) (by decide) | exact LU.vin (B := 4) hm (by decide) (by with_reducible assumption) (by decide) | exact LU.vin (B := 16) hm (by decide) (by with_reducible assumption) (by decide) | exact vp_in_nI (n := 0) (by decide) (by decide) | with_reducible exact gdm_in (by with_reducible assumption) (by with_reducible assumption) | with_reducible exact gd_in (by with_reducible assumption) (by with_reducible assumption)) dX6_nearestGuide_20 ?_
        refine hc_S (As := [.long (u.2.2.2.2.2.2 i.toNatClampNeg)]) (rest := []) ⟨hx, hb, hml, hown, hts⟩ (ct_X1_isInfinite l (u.2.2.2.2.2.2 i.toNatClampNeg)) (va_cwS 1 hts gX6_nearestGuide_X1_isInfinite rfl rfl rfl (by decide +kernel) ⟨Nat.le_of_ble_eq_true rfl, Nat.le_of_ble_eq_true rfl⟩) rfl hl.1 rfl (Nat.le_of_ble_eq_true rfl) dX6_nearestGuide_21 ⟨Nat.le_of_ble_eq_true rfl, Nat.le_of_ble_eq_true rfl⟩ ?_
        refine lv_if_ne (tgt := 64) hx hb dX6_nearestGuide_24 (by decide) (fun c_2 => ?_) (fun c_2 => ?_)
        · refine lv_iinc (v := (i + 1)) (lv' := [(6, .int (i + 1)), (3, .int q), (4, .double v), (0, .ref (ad 0)), (1, .long a0)]) hx hb dX6_nearestGuide_64 hl (k := 2) rfl rfl (by decide) rfl (fun ls hl => ?_)
          refine lv_goto (tgt := 8) hx hb dX6_nearestGuide_67 (by decide) ?_
          exact ih q v (i + 1) ls (LU.up (B := 4) (by decide) hm (by with_reducible assumption))  (by rw [← heq, mX6_nearestGuide_L, if_neg c_1, if_neg c_2]) (lv_sub hl [1, 2, 0, 3, 4] rfl)
        · refine lv_aload_n hx hb dX6_nearestGuide_27 rfl (lv_at hl 3 rfl) ?_
          refine va_get (D := (dC, dI)) (ci := 2) (v := .ref (ad 1)) (C := RX6) (T := TX6) (N := 7) hx hb hts hin6 hown hK hP 0 rfl rfl 0 (by decide) (hts (.fieldLink RX6 12 "SnapTable" "widths" "LSnapTable$Axis;") (by decide +kernel)) (fun _ h9 => h9) rfl dX6_nearestGuide_28 ?_
          refine lv_lload_n hx hb dX6_nearestGuide_31 rfl (lv_at hl 4 rfl) ?_
          refine lv_aload_n hx hb dX6_nearestGuide_32 rfl (lv_at hl 3 rfl) ?_
          refine va_get (D := (dC, dI)) (ci := 2) (v := .ref (ad 4)) (C := RX6) (T := TX6) (N := 7) hx hb hts hin6 hown hK hP 0 rfl rfl 3 (by decide) (hts (.fieldLink RX6 28 "SnapTable" "guides" "[J") (by decide +kernel)) (fun _ h9 => h9) rfl dX6_nearestGuide_33 ?_
          refine lv_iload hx hb dX6_nearestGuide_36 (lv_at hl 2 rfl) ?_
          refine va_lald hx hb hK hP 4 0 rfl rfl (by first | with_reducible assumption | with_reducible exact pt_in (by with_reducible assumption) | with_reducible exact ptm_in (by with_reducible assumption) | exact LU.vin (B := 8) hm (by decide) (by with_reducible assumption) (by decide) | exact LU.vin (B := 4) hm (by decide) (by with_reducible assumption) (by decide) | exact LU.vin (B := 16) hm (by decide) (by with_reducible assumption) (by decide) | exact vp_in_nI (n := 0) (by decide) (by decide) | with_reducible exact gdm_in (by with_reducible assumption) (by with_reducible assumption) | with_reducible exact gd_in (by with_reducible assumption) (by with_reducible assumption)) dX6_nearestGuide_38 ?_
          refine hc_V (C := RX0) (ci := 0) (T := TX0) (N := 5) (As := [.long a0, .long (u.2.2.2.2.2.2 i.toNatClampNeg)]) (rest := []) ⟨hx, hb, hml, hown, hts⟩ (ct_X0_apart_w l dC dI (ad 1) (ad 5) (ca 5) u.2.2.2.1 a0 (u.2.2.2.2.2.2 i.toNatClampNeg) (hg _ (LU.vin (B := 4) hm (by decide) (by with_reducible assumption) (by decide)) (by with_reducible assumption))) (cwV 2 hts gX6_nearestGuide_X0_apart rfl rfl rfl (by decide +kernel) ⟨Nat.le_of_ble_eq_true rfl, Nat.le_of_ble_eq_true rfl⟩) (hw_part hP [1, 5] rfl) (hK.sub [1] rfl) hNW rfl rfl rfl hl.1 rfl (Nat.le_of_ble_eq_true rfl) dX6_nearestGuide_39 ⟨Nat.le_of_ble_eq_true rfl, Nat.le_of_ble_eq_true rfl⟩ ?_
          refine lv_dstore (lv' := [(7, .double (mX0_apart_w u.2.2.2.1 a0 (u.2.2.2.2.2.2 i.toNatClampNeg))), (3, .int q), (4, .double v), (6, .int i), (0, .ref (ad 0)), (1, .long a0)]) hx hb dX6_nearestGuide_42 hl (by decide) rfl (fun ls hl => ?_)
          refine lv_iload_n hx hb dX6_nearestGuide_44 rfl (lv_at hl 1 rfl) ?_
          refine lv_iconst (v := (-1 : Int32)) hx hb dX6_nearestGuide_45 (by decide) ?_
          refine lv_icmp_eq (tgt := 57) hx hb dX6_nearestGuide_46 (by decide) (fun c_3 => ?_) (fun c_3 => ?_)
          · refine lv_iload hx hb dX6_nearestGuide_57 (lv_at hl 3 rfl) ?_
            refine lv_istore_n (lv' := [(3, .int i), (7, .double (mX0_apart_w u.2.2.2.1 a0 (u.2.2.2.2.2.2 i.toNatClampNeg))), (4, .double v), (6, .int i), (0, .ref (ad 0)), (1, .long a0)]) hx hb dX6_nearestGuide_59 rfl hl (by decide) rfl (fun ls hl => ?_)
            refine lv_dload hx hb dX6_nearestGuide_60 (lv_at hl 1 rfl) ?_
            refine lv_dstore (lv' := [(4, .double (mX0_apart_w u.2.2.2.1 a0 (u.2.2.2.2.2.2 i.toNatClampNeg))), (3, .int i), (7, .double (mX0_apart_w u.2.2.2.1 a0 (u.2.2.2.2.2.2 i.toNatClampNeg))), (6, .int i), (0, .ref (ad 0)), (1, .long a0)]) hx hb dX6_nearestGuide_62 hl (by decide) rfl (fun ls hl => ?_)
            refine lv_iinc (v := (i + 1)) (lv' := [(6, .int (i + 1)), (4, .double (mX0_apart_w u.2.2.2.1 a0 (u.2.2.2.2.2.2 i.toNatClampNeg))), (3, .int i), (7, .double (mX0_apart_w u.2.2.2.1 a0 (u.2.2.2.2.2.2 i.toNatClampNeg))), (0, .ref (ad 0)), (1, .long a0)]) hx hb dX6_nearestGuide_64 hl (k := 3) rfl rfl (by decide) rfl (fun ls hl => ?_)
            refine lv_goto (tgt := 8) hx hb dX6_nearestGuide_67 (by decide) ?_
            exact ih i (mX0_apart_w u.2.2.2.1 a0 (u.2.2.2.2.2.2 i.toNatClampNeg)) (i + 1) ls (LU.up (B := 4) (by decide) hm (by with_reducible assumption))  (by rw [← heq, mX6_nearestGuide_L, if_neg c_1, if_pos c_2, if_pos c_3]) (lv_sub hl [2, 1, 0, 4, 5] rfl)
          · refine lv_dload hx hb dX6_nearestGuide_49 (lv_at hl 0 rfl) ?_
            refine lv_dload hx hb dX6_nearestGuide_51 (lv_at hl 2 rfl) ?_
            refine lv_dcmp hx hb dX6_nearestGuide_53 ?_
            refine lv_if_ge (tgt := 64) hx hb dX6_nearestGuide_54 (by decide) (fun c_4 => ?_) (fun c_4 => ?_)
            · refine lv_iinc (v := (i + 1)) (lv' := [(6, .int (i + 1)), (7, .double (mX0_apart_w u.2.2.2.1 a0 (u.2.2.2.2.2.2 i.toNatClampNeg))), (3, .int q), (4, .double v), (0, .ref (ad 0)), (1, .long a0)]) hx hb dX6_nearestGuide_64 hl (k := 3) rfl rfl (by decide) rfl (fun ls hl => ?_)
              refine lv_goto (tgt := 8) hx hb dX6_nearestGuide_67 (by decide) ?_
              exact ih q v (i + 1) ls (LU.up (B := 4) (by decide) hm (by with_reducible assumption))  (by rw [← heq, mX6_nearestGuide_L, if_neg c_1, if_pos c_2, if_neg c_3, if_pos c_4]) (lv_sub hl [2, 3, 0, 4, 5] rfl)
            · refine lv_iload hx hb dX6_nearestGuide_57 (lv_at hl 3 rfl) ?_
              refine lv_istore_n (lv' := [(3, .int i), (7, .double (mX0_apart_w u.2.2.2.1 a0 (u.2.2.2.2.2.2 i.toNatClampNeg))), (4, .double v), (6, .int i), (0, .ref (ad 0)), (1, .long a0)]) hx hb dX6_nearestGuide_59 rfl hl (by decide) rfl (fun ls hl => ?_)
              refine lv_dload hx hb dX6_nearestGuide_60 (lv_at hl 1 rfl) ?_
              refine lv_dstore (lv' := [(4, .double (mX0_apart_w u.2.2.2.1 a0 (u.2.2.2.2.2.2 i.toNatClampNeg))), (3, .int i), (7, .double (mX0_apart_w u.2.2.2.1 a0 (u.2.2.2.2.2.2 i.toNatClampNeg))), (6, .int i), (0, .ref (ad 0)), (1, .long a0)]) hx hb dX6_nearestGuide_62 hl (by decide) rfl (fun ls hl => ?_)
              refine lv_iinc (v := (i + 1)) (lv' := [(6, .int (i + 1)), (4, .double (mX0_apart_w u.2.2.2.1 a0 (u.2.2.2.2.2.2 i.toNatClampNeg))), (3, .int i), (7, .double (mX0_apart_w u.2.2.2.1 a0 (u.2.2.2.2.2.2 i.toNatClampNeg))), (0, .ref (ad 0)), (1, .long a0)]) hx hb dX6_nearestGuide_64 hl (k := 3) rfl rfl (by decide) rfl (fun ls hl => ?_)
              refine lv_goto (tgt := 8) hx hb dX6_nearestGuide_67 (by decide) ?_
              exact ih i (mX0_apart_w u.2.2.2.1 a0 (u.2.2.2.2.2.2 i.toNatClampNeg)) (i + 1) ls (LU.up (B := 4) (by decide) hm (by with_reducible assumption))  (by rw [← heq, mX6_nearestGuide_L, if_neg c_1, if_pos c_2, if_neg c_3, if_neg c_4]) (lv_sub hl [2, 1, 0, 4, 5] rfl)
  exact loop 5 (-1 : Int32) FP.dconst0 (0 : Int32) ls (by unfold LU; decide)  (by rw [mX6_nearestGuide]) (lv_sub hl [2, 1, 0, 3, 4] rfl)

theorem ng_L (u : TS) (a0 : Int64) : ∀ (n : Nat) (q : Int32) (v : UInt64) (i : Int32), LU 4 n i → (q = -1 ∨ vp_in q 4 ∧ mX1_isInfinite ((u.2.2.2.2.2.2 q.toNatClampNeg)) = 0) → (mX6_nearestGuide_L u a0 n q v i = -1 ∨ vp_in (mX6_nearestGuide_L u a0 n q v i) 4 ∧ mX1_isInfinite (u.2.2.2.2.2.2 (mX6_nearestGuide_L u a0 n q v i).toNatClampNeg) = 0) := by
  intro n
  induction n with
  | zero => intro q v i hm _; exact hm.z.elim
  | succ n ih =>
    intro q v i hm hq
    rw [mX6_nearestGuide_L]
    split
    · exact hq
    · rename_i h4
      have hm2 := LU.up (B := 4) (by decide) hm h4
      have hin := LU.vin (N := 4) hm (B := 4) (by decide) h4 (by decide)
      split
      · rename_i hz
        split
        · exact ih _ _ _ hm2 (Or.inr ⟨hin, hz⟩)
        · split
          · exact ih _ _ _ hm2 hq
          · exact ih _ _ _ hm2 (Or.inr ⟨hin, hz⟩)
      · exact ih _ _ _ hm2 hq
theorem ng_both (u : TS) (a0 : Int64) : mX6_nearestGuide u a0 = -1 ∨ vp_in (mX6_nearestGuide u a0) 4 ∧ mX1_isInfinite (u.2.2.2.2.2.2 (mX6_nearestGuide u a0).toNatClampNeg) = 0 := by
  rw [mX6_nearestGuide]
  exact ng_L u a0 5 _ _ _ (by unfold LU; decide) (Or.inl rfl)
theorem ng_in {u : TS} {a0 : Int64} (h : ¬ mX6_nearestGuide u a0 = -1) : vp_in (mX6_nearestGuide u a0) 4 := ((ng_both u a0).resolve_left h).1
theorem ng_fin {u : TS} {a0 : Int64} (h : ¬ mX6_nearestGuide u a0 = -1) : mX1_isInfinite (u.2.2.2.2.2.2 (mX6_nearestGuide u a0).toNatClampNeg) = 0 := ((ng_both u a0).resolve_left h).2

def mX6_stick (u : TS) (a0 : Int32) (a1 : Int64) : Int32 × TS := (if (mX6_isPoint a0) = 0 then ((mX6_refuse u (1 : Int32)).1, (mX6_refuse u (1 : Int32)).2) else (if (mX1_isNone a1) = 0 then (if 0 ≤ (Op.cmpValue (FP.dcmp (mX1_value a1) FP.dconst0) .g) then (if (mX6_nearestGuide u (u.2.2.2.1.2.2.2 a0.toNatClampNeg)) = (-1 : Int32) then ((mX6_refuse u (6 : Int32)).1, (mX6_refuse u (6 : Int32)).2) else (if (Op.cmpValue (FP.dcmp (mX0_apart_w u.2.2.2.1 (u.2.2.2.1.2.2.2 a0.toNatClampNeg) (u.2.2.2.2.2.2 (mX6_nearestGuide u (u.2.2.2.1.2.2.2 a0.toNatClampNeg)).toNatClampNeg)) (mX1_value a1)) .l) ≤ 0 then ((mX6_putWalled u a0 (u.2.2.2.2.2.2 (mX6_nearestGuide u (u.2.2.2.1.2.2.2 a0.toNatClampNeg)).toNatClampNeg) (u.2.2.2.2.1.2.2.2 a0.toNatClampNeg)).1, (mX6_putWalled u a0 (u.2.2.2.2.2.2 (mX6_nearestGuide u (u.2.2.2.1.2.2.2 a0.toNatClampNeg)).toNatClampNeg) (u.2.2.2.2.1.2.2.2 a0.toNatClampNeg)).2) else ((mX6_refuse u (6 : Int32)).1, (mX6_refuse u (6 : Int32)).2))) else ((mX6_refuse u (4 : Int32)).1, (mX6_refuse u (4 : Int32)).2)) else ((mX6_refuse u (2 : Int32)).1, (mX6_refuse u (2 : Int32)).2)))
set_option maxHeartbeats 4000000 in
set_option maxRecDepth 100000 in
theorem ct_X6_stick (l : Launch) (dC : Nat → ClassId) (dI : Nat → Nat → Nat) (ad : Nat → Nat) (ca : Nat → ClassId) (sz : Nat) (u : TS) (a0 : Int32) (a1 : Int64) (hn : vp_in u.2.2.2.2.2.1.1 16) (hg : ∀ i g : Int32, vp_in i 8 → vp_in g 4 → mX1_isInfinite (u.2.2.2.2.2.2 g.toNatClampNeg) = 0 → FP.dIsNaN (FP.dsub (mX1_value (u.2.2.2.1.2.2.2 i.toNatClampNeg)) (mX1_value (u.2.2.2.2.2.2 g.toNatClampNeg))) = false) : Met l yX6_stick wsX6_stick { frames := 6, cells := 0, slots := 0, locals := 151 } (pM (dC, dI) vwCl [((ca 4), .long), ((ca 5), .long), ((ca 6), .long), ((ca 7), .int), ((ca 8), .long), ((ca 9), .long)] (WT ad ca u) sz [.ref (ad 0), .int a0, .long a1]) (qM (dC, dI) vwCl (WT ad ca u) sz (some (.int (mX6_stick u a0 a1).1)) (WT ad ca (mX6_stick u a0 a1).2)) 0 0 (va_A (WT ad ca u) sz) := by
  refine Met.ofW (cc := cX6_stick) (maxL := 5) (ret := (some .int)) (by decide) rfl ?_
  intro p e s m args below meth c s₁ B hml hv
  obtain ⟨rfl, hsz, hP, hK, hD0, hNW⟩ := hv
  subst hsz
  have hx := B.exec
  have hb := B.bytes
  have hr := B.returns
  have hts := atoms_spec (ws := wsX6_stick) B.pre
  have hown : s.vm.findClass RX6 = some m.cls := findClass_of_methodNamed B.named
  have hlocks := B.notSynchronized
  have hin0 : ∀ w ∈ wsX00, w ∈ wsX6_stick := by decide +kernel
  have hin6 : ∀ w ∈ wsX60, w ∈ wsX6_stick := by decide +kernel
  have hD : va_D (va_A (WT ad ca u) s.heap.size) (WT ad ca u) := hD0.self
  have hA : ∀ q : Nat, s.heap.size ≤ q → va_A (WT ad ca u) s.heap.size q := fun q h => Or.inr h
  have hS : va_S (va_A (WT ad ca u) s.heap.size) s.heap s.heap [] := va_S.rf
  have hl := lv_entry ([.ref (ad 0), .int a0, .long a1]) (n := 5) (Nat.le_of_ble_eq_true rfl)
  rw [lg_entry_eq]
  generalize (lg_sl ([.ref (ad 0), .int a0, .long a1]) ++ List.replicate (5 - (lg_sl ([.ref (ad 0), .int a0, .long a1])).length) Slot.unset).toArray = ls at hl ⊢
  have hl : lv_has ls 5 [(0, .ref (ad 0)), (1, .int a0), (2, .long a1)] := hl
  refine lv_iload_n hx hb dX6_stick_0 rfl (lv_at hl 1 rfl) ?_
  refine hc_S (As := [.int a0]) (rest := []) ⟨hx, hb, hml, hown, hts⟩ (ct_X6_isPoint l a0) (va_cwS 1 hts gX6_stick_X6_isPoint rfl rfl rfl (by decide +kernel) ⟨Nat.le_of_ble_eq_true rfl, Nat.le_of_ble_eq_true rfl⟩) rfl hl.1 rfl (Nat.le_of_ble_eq_true rfl) dX6_stick_1 ⟨Nat.le_of_ble_eq_true rfl, Nat.le_of_ble_eq_true rfl⟩ ?_
  refine lv_if_ne (tgt := 13) hx hb dX6_stick_4 (by decide) (fun c_1 => ?_) (fun c_1 => ?_)
  · refine lv_lload_n hx hb dX6_stick_13 rfl (lv_at hl 2 rfl) ?_
    refine hc_S (As := [.long a1]) (rest := []) ⟨hx, hb, hml, hown, hts⟩ (ct_X1_isNone l a1) (va_cwS 1 hts gX6_stick_X1_isNone rfl rfl rfl (by decide +kernel) ⟨Nat.le_of_ble_eq_true rfl, Nat.le_of_ble_eq_true rfl⟩) rfl hl.1 rfl (Nat.le_of_ble_eq_true rfl) dX6_stick_14 ⟨Nat.le_of_ble_eq_true rfl, Nat.le_of_ble_eq_true rfl⟩ ?_
    refine lv_if_eq (tgt := 26) hx hb dX6_stick_17 (by decide) (fun c_2 => ?_) (fun c_2 => ?_)
    · refine lv_lload_n hx hb dX6_stick_26 rfl (lv_at hl 2 rfl) ?_
      refine hc_S (As := [.long a1]) (rest := []) ⟨hx, hb, hml, hown, hts⟩ (ct_X1_value l a1) (va_cwS 1 hts gX6_stick_X1_value rfl rfl rfl (by decide +kernel) ⟨Nat.le_of_ble_eq_true rfl, Nat.le_of_ble_eq_true rfl⟩) rfl hl.1 rfl (Nat.le_of_ble_eq_true rfl) dX6_stick_27 ⟨Nat.le_of_ble_eq_true rfl, Nat.le_of_ble_eq_true rfl⟩ ?_
      refine lv_dconst0 hx hb dX6_stick_30 ?_
      refine lv_dcmp hx hb dX6_stick_31 ?_
      refine lv_if_ge (tgt := 41) hx hb dX6_stick_32 (by decide) (fun c_3 => ?_) (fun c_3 => ?_)
      · refine lv_aload_n hx hb dX6_stick_41 rfl (lv_at hl 0 rfl) ?_
        refine lv_aload_n hx hb dX6_stick_42 rfl (lv_at hl 0 rfl) ?_
        refine va_get (D := (dC, dI)) (ci := 2) (v := .ref (ad 1)) (C := RX6) (T := TX6) (N := 7) hx hb hts hin6 hown hK hP 0 rfl rfl 0 (by decide) (hts (.fieldLink RX6 12 "SnapTable" "widths" "LSnapTable$Axis;") (by decide +kernel)) (fun _ h9 => h9) rfl dX6_stick_43 ?_
        refine va_getN (D := (dC, dI)) (ci := 0) (v := .ref (ad 5)) (C := RX0) (T := TX0) (N := 5) hx hb hts hin0 hown hK hP 1 rfl rfl 1 (by decide) (va_Nw.use rfl hNW.1) (fun _ h9 => h9) rfl dX6_stick_46 ?_
        refine lv_iload_n hx hb dX6_stick_49 rfl (lv_at hl 1 rfl) ?_
        refine va_lald hx hb hK hP 5 1 rfl rfl (by first | with_reducible assumption | with_reducible exact pt_in (by with_reducible assumption) | with_reducible exact ptm_in (by with_reducible assumption) | exact LU.vin (B := 8) hm (by decide) (by with_reducible assumption) (by decide) | exact LU.vin (B := 4) hm (by decide) (by with_reducible assumption) (by decide) | exact LU.vin (B := 16) hm (by decide) (by with_reducible assumption) (by decide) | exact vp_in_nI (n := 0) (by decide) (by decide) | with_reducible exact gdm_in (by with_reducible assumption) (by with_reducible assumption) | with_reducible exact gd_in (by with_reducible assumption) (by with_reducible assumption)) dX6_stick_50 ?_
        refine hc_V (C := RX6) (ci := 2) (T := TX6) (N := 7) (As := [.long (u.2.2.2.1.2.2.2 a0.toNatClampNeg)]) (rest := []) ⟨hx, hb, hml, hown, hts⟩ (ct_X6_nearestGuide l dC dI ad ca u (u.2.2.2.1.2.2.2 a0.toNatClampNeg) (fun g h1 h2 => hg _ g (pt_in (by with_reducible assumption)) h1 h2)) (cwV 1 hts gX6_stick_X6_nearestGuide rfl rfl rfl (by decide +kernel) ⟨Nat.le_of_ble_eq_true rfl, Nat.le_of_ble_eq_true rfl⟩) (hw_part hP [0, 1, 2, 3, 4, 5, 6, 7, 8, 9] rfl) (hK.sub [0, 1, 2, 3, 4, 5] rfl) hNW rfl rfl rfl hl.1 rfl (Nat.le_of_ble_eq_true rfl) dX6_stick_51 ⟨Nat.le_of_ble_eq_true rfl, Nat.le_of_ble_eq_true rfl⟩ ?_
        refine lv_istore (lv' := [(4, .int (mX6_nearestGuide u (u.2.2.2.1.2.2.2 a0.toNatClampNeg))), (0, .ref (ad 0)), (1, .int a0), (2, .long a1)]) hx hb dX6_stick_54 hl (by decide) rfl (fun ls hl => ?_)
        refine lv_iload hx hb dX6_stick_56 (lv_at hl 0 rfl) ?_
        refine lv_iconst (v := (-1 : Int32)) hx hb dX6_stick_58 (by decide) ?_
        refine lv_icmp_eq (tgt := 93) hx hb dX6_stick_59 (by decide) (fun c_4 => ?_) (fun c_4 => ?_)
        · refine lv_aload_n hx hb dX6_stick_93 rfl (lv_at hl 1 rfl) ?_
          refine lv_bipush (v := (6 : Int32)) hx hb dX6_stick_94 (by decide) ?_
          refine hc_M (C := RX6) (ci := 2) (T := TX6) (N := 7) (As := [.int (6 : Int32)]) (rest := []) ⟨hx, hb, hml, hown, hts⟩ (ct_X6_refuse l dC dI ad ca _ u (6 : Int32)) (cwV 1 hts gX6_stick_X6_refuse rfl rfl rfl (by decide +kernel) ⟨Nat.le_of_ble_eq_true rfl, Nat.le_of_ble_eq_true rfl⟩) hP hD (hK.sub [0, 1, 2, 3, 4, 5] rfl) hNW hS hA [0, 1, 2, 3, 4, 5, 6, 7, 8, 9] [] rfl (wr := []) rfl (by decide) (by decide) (by decide) rfl rfl rfl hl.1 rfl (Nat.le_of_ble_eq_true rfl) dX6_stick_96 ⟨Nat.le_of_ble_eq_true rfl, Nat.le_of_ble_eq_true rfl⟩ (fun H locs hP hD hS => ?_)
          generalize hz_5 : mX6_refuse u (6 : Int32) = z_5 at hP hD ⊢
          have hP : va_P (dC, dI) vwCl (WT ad ca z_5.2) H := hP.sub [0, 1, 2, 3, 4, 5, 6, 7, 8, 9] rfl
          have hD : va_D (va_A (WT ad ca u) s.heap.size) (WT ad ca z_5.2) := hD.sub [0, 1, 2, 3, 4, 5, 6, 7, 8, 9] (by decide) rfl
          refine W.eq (g2 := F0 m 99 ls (.int z_5.1 :: [])) rfl ?_
          have he : mX6_stick u a0 a1 = (z_5.1, z_5.2) := by rw [mX6_stick, if_neg c_1, if_pos c_2, if_pos c_3, if_pos c_4, hz_5]
          exact rM_i hx hb hr hlocks hP hD hS (by rw [he]) (by rw [he]) dX6_stick_99
        · refine lv_aload_n hx hb dX6_stick_62 rfl (lv_at hl 1 rfl) ?_
          refine va_get (D := (dC, dI)) (ci := 2) (v := .ref (ad 1)) (C := RX6) (T := TX6) (N := 7) hx hb hts hin6 hown hK hP 0 rfl rfl 0 (by decide) (hts (.fieldLink RX6 12 "SnapTable" "widths" "LSnapTable$Axis;") (by decide +kernel)) (fun _ h9 => h9) rfl dX6_stick_63 ?_
          refine lv_aload_n hx hb dX6_stick_66 rfl (lv_at hl 1 rfl) ?_
          refine va_get (D := (dC, dI)) (ci := 2) (v := .ref (ad 1)) (C := RX6) (T := TX6) (N := 7) hx hb hts hin6 hown hK hP 0 rfl rfl 0 (by decide) (hts (.fieldLink RX6 12 "SnapTable" "widths" "LSnapTable$Axis;") (by decide +kernel)) (fun _ h9 => h9) rfl dX6_stick_67 ?_
          refine va_getN (D := (dC, dI)) (ci := 0) (v := .ref (ad 5)) (C := RX0) (T := TX0) (N := 5) hx hb hts hin0 hown hK hP 1 rfl rfl 1 (by decide) (va_Nw.use rfl hNW.1) (fun _ h9 => h9) rfl dX6_stick_70 ?_
          refine lv_iload_n hx hb dX6_stick_73 rfl (lv_at hl 2 rfl) ?_
          refine va_lald hx hb hK hP 5 1 rfl rfl (by first | with_reducible assumption | with_reducible exact pt_in (by with_reducible assumption) | with_reducible exact ptm_in (by with_reducible assumption) | exact LU.vin (B := 8) hm (by decide) (by with_reducible assumption) (by decide) | exact LU.vin (B := 4) hm (by decide) (by with_reducible assumption) (by decide) | exact LU.vin (B := 16) hm (by decide) (by with_reducible assumption) (by decide) | exact vp_in_nI (n := 0) (by decide) (by decide) | with_reducible exact gdm_in (by with_reducible assumption) (by with_reducible assumption) | with_reducible exact gd_in (by with_reducible assumption) (by with_reducible assumption)) dX6_stick_74 ?_
          refine lv_aload_n hx hb dX6_stick_75 rfl (lv_at hl 1 rfl) ?_
          refine va_get (D := (dC, dI)) (ci := 2) (v := .ref (ad 4)) (C := RX6) (T := TX6) (N := 7) hx hb hts hin6 hown hK hP 0 rfl rfl 3 (by decide) (hts (.fieldLink RX6 28 "SnapTable" "guides" "[J") (by decide +kernel)) (fun _ h9 => h9) rfl dX6_stick_76 ?_
          refine lv_iload hx hb dX6_stick_79 (lv_at hl 0 rfl) ?_
          refine va_lald hx hb hK hP 4 0 rfl rfl (ng_in (by with_reducible assumption)) dX6_stick_81 ?_
          refine hc_V (C := RX0) (ci := 0) (T := TX0) (N := 5) (As := [.long (u.2.2.2.1.2.2.2 a0.toNatClampNeg), .long (u.2.2.2.2.2.2 (mX6_nearestGuide u (u.2.2.2.1.2.2.2 a0.toNatClampNeg)).toNatClampNeg)]) (rest := []) ⟨hx, hb, hml, hown, hts⟩ (ct_X0_apart_w l dC dI (ad 1) (ad 5) (ca 5) u.2.2.2.1 (u.2.2.2.1.2.2.2 a0.toNatClampNeg) (u.2.2.2.2.2.2 (mX6_nearestGuide u (u.2.2.2.1.2.2.2 a0.toNatClampNeg)).toNatClampNeg) (hg _ _ (pt_in (by with_reducible assumption)) (ng_in (by with_reducible assumption)) (ng_fin (by with_reducible assumption)))) (cwV 2 hts gX6_stick_X0_apart rfl rfl rfl (by decide +kernel) ⟨Nat.le_of_ble_eq_true rfl, Nat.le_of_ble_eq_true rfl⟩) (hw_part hP [1, 5] rfl) (hK.sub [1] rfl) hNW rfl rfl rfl hl.1 rfl (Nat.le_of_ble_eq_true rfl) dX6_stick_82 ⟨Nat.le_of_ble_eq_true rfl, Nat.le_of_ble_eq_true rfl⟩ ?_
          refine lv_lload_n hx hb dX6_stick_85 rfl (lv_at hl 3 rfl) ?_
          refine hc_S (As := [.long a1]) (rest := [.double (mX0_apart_w u.2.2.2.1 (u.2.2.2.1.2.2.2 a0.toNatClampNeg) (u.2.2.2.2.2.2 (mX6_nearestGuide u (u.2.2.2.1.2.2.2 a0.toNatClampNeg)).toNatClampNeg))]) ⟨hx, hb, hml, hown, hts⟩ (ct_X1_value l a1) (va_cwS 1 hts gX6_stick_X1_value rfl rfl rfl (by decide +kernel) ⟨Nat.le_of_ble_eq_true rfl, Nat.le_of_ble_eq_true rfl⟩) rfl hl.1 rfl (Nat.le_of_ble_eq_true rfl) dX6_stick_86 ⟨Nat.le_of_ble_eq_true rfl, Nat.le_of_ble_eq_true rfl⟩ ?_
          refine lv_dcmp hx hb dX6_stick_89 ?_
          refine lv_if_le (tgt := 100) hx hb dX6_stick_90 (by decide) (fun c_6 => ?_) (fun c_6 => ?_)
          · refine lv_aload_n hx hb dX6_stick_100 rfl (lv_at hl 1 rfl) ?_
            refine lv_iload_n hx hb dX6_stick_101 rfl (lv_at hl 2 rfl) ?_
            refine lv_aload_n hx hb dX6_stick_102 rfl (lv_at hl 1 rfl) ?_
            refine va_get (D := (dC, dI)) (ci := 2) (v := .ref (ad 4)) (C := RX6) (T := TX6) (N := 7) hx hb hts hin6 hown hK hP 0 rfl rfl 3 (by decide) (hts (.fieldLink RX6 28 "SnapTable" "guides" "[J") (by decide +kernel)) (fun _ h9 => h9) rfl dX6_stick_103 ?_
            refine lv_iload hx hb dX6_stick_106 (lv_at hl 0 rfl) ?_
            refine va_lald hx hb hK hP 4 0 rfl rfl (ng_in (by with_reducible assumption)) dX6_stick_108 ?_
            refine lv_aload_n hx hb dX6_stick_109 rfl (lv_at hl 1 rfl) ?_
            refine va_get (D := (dC, dI)) (ci := 2) (v := .ref (ad 2)) (C := RX6) (T := TX6) (N := 7) hx hb hts hin6 hown hK hP 0 rfl rfl 1 (by decide) (hts (.fieldLink RX6 18 "SnapTable" "heights" "LSnapTable$Axis;") (by decide +kernel)) (fun _ h9 => h9) rfl dX6_stick_110 ?_
            refine va_getN (D := (dC, dI)) (ci := 0) (v := .ref (ad 6)) (C := RX0) (T := TX0) (N := 5) hx hb hts hin0 hown hK hP 2 rfl rfl 1 (by decide) (va_Nw.use rfl hNW.1) (fun _ h9 => h9) rfl dX6_stick_113 ?_
            refine lv_iload_n hx hb dX6_stick_116 rfl (lv_at hl 2 rfl) ?_
            refine va_lald hx hb hK hP 6 2 rfl rfl (by first | with_reducible assumption | with_reducible exact pt_in (by with_reducible assumption) | with_reducible exact ptm_in (by with_reducible assumption) | exact LU.vin (B := 8) hm (by decide) (by with_reducible assumption) (by decide) | exact LU.vin (B := 4) hm (by decide) (by with_reducible assumption) (by decide) | exact LU.vin (B := 16) hm (by decide) (by with_reducible assumption) (by decide) | exact vp_in_nI (n := 0) (by decide) (by decide) | with_reducible exact gdm_in (by with_reducible assumption) (by with_reducible assumption) | with_reducible exact gd_in (by with_reducible assumption) (by with_reducible assumption)) dX6_stick_117 ?_
            refine hc_M (C := RX6) (ci := 2) (T := TX6) (N := 7) (As := [.int a0, .long (u.2.2.2.2.2.2 (mX6_nearestGuide u (u.2.2.2.1.2.2.2 a0.toNatClampNeg)).toNatClampNeg), .long (u.2.2.2.2.1.2.2.2 a0.toNatClampNeg)]) (rest := []) ⟨hx, hb, hml, hown, hts⟩ (ct_X6_putWalled l dC dI ad ca _ u a0 (u.2.2.2.2.2.2 (mX6_nearestGuide u (u.2.2.2.1.2.2.2 a0.toNatClampNeg)).toNatClampNeg) (u.2.2.2.2.1.2.2.2 a0.toNatClampNeg) (by first | with_reducible assumption | with_reducible exact pt_in (by with_reducible assumption) | with_reducible exact hn) (by first | with_reducible assumption | with_reducible exact pt_in (by with_reducible assumption) | with_reducible exact hn)) (cwV 3 hts gX6_stick_X6_putWalled rfl rfl rfl (by decide +kernel) ⟨Nat.le_of_ble_eq_true rfl, Nat.le_of_ble_eq_true rfl⟩) hP hD (hK.sub [0, 1, 2, 3, 4, 5] rfl) hNW hS hA [0, 1, 2, 3, 4, 5, 6, 7, 8, 9] [] rfl (wr := []) rfl (by decide) (by decide) (by decide) rfl rfl rfl hl.1 rfl (Nat.le_of_ble_eq_true rfl) dX6_stick_118 ⟨Nat.le_of_ble_eq_true rfl, Nat.le_of_ble_eq_true rfl⟩ (fun H locs hP hD hS => ?_)
            generalize hz_7 : mX6_putWalled u a0 (u.2.2.2.2.2.2 (mX6_nearestGuide u (u.2.2.2.1.2.2.2 a0.toNatClampNeg)).toNatClampNeg) (u.2.2.2.2.1.2.2.2 a0.toNatClampNeg) = z_7 at hP hD ⊢
            have hP : va_P (dC, dI) vwCl (WT ad ca z_7.2) H := hP.sub [0, 1, 2, 3, 4, 5, 6, 7, 8, 9] rfl
            have hD : va_D (va_A (WT ad ca u) s.heap.size) (WT ad ca z_7.2) := hD.sub [0, 1, 2, 3, 4, 5, 6, 7, 8, 9] (by decide) rfl
            refine W.eq (g2 := F0 m 121 ls (.int z_7.1 :: [])) rfl ?_
            have he : mX6_stick u a0 a1 = (z_7.1, z_7.2) := by rw [mX6_stick, if_neg c_1, if_pos c_2, if_pos c_3, if_neg c_4, if_pos c_6, hz_7]
            exact rM_i hx hb hr hlocks hP hD hS (by rw [he]) (by rw [he]) dX6_stick_121
          · refine lv_aload_n hx hb dX6_stick_93 rfl (lv_at hl 1 rfl) ?_
            refine lv_bipush (v := (6 : Int32)) hx hb dX6_stick_94 (by decide) ?_
            refine hc_M (C := RX6) (ci := 2) (T := TX6) (N := 7) (As := [.int (6 : Int32)]) (rest := []) ⟨hx, hb, hml, hown, hts⟩ (ct_X6_refuse l dC dI ad ca _ u (6 : Int32)) (cwV 1 hts gX6_stick_X6_refuse rfl rfl rfl (by decide +kernel) ⟨Nat.le_of_ble_eq_true rfl, Nat.le_of_ble_eq_true rfl⟩) hP hD (hK.sub [0, 1, 2, 3, 4, 5] rfl) hNW hS hA [0, 1, 2, 3, 4, 5, 6, 7, 8, 9] [] rfl (wr := []) rfl (by decide) (by decide) (by decide) rfl rfl rfl hl.1 rfl (Nat.le_of_ble_eq_true rfl) dX6_stick_96 ⟨Nat.le_of_ble_eq_true rfl, Nat.le_of_ble_eq_true rfl⟩ (fun H locs hP hD hS => ?_)
            generalize hz_8 : mX6_refuse u (6 : Int32) = z_8 at hP hD ⊢
            have hP : va_P (dC, dI) vwCl (WT ad ca z_8.2) H := hP.sub [0, 1, 2, 3, 4, 5, 6, 7, 8, 9] rfl
            have hD : va_D (va_A (WT ad ca u) s.heap.size) (WT ad ca z_8.2) := hD.sub [0, 1, 2, 3, 4, 5, 6, 7, 8, 9] (by decide) rfl
            refine W.eq (g2 := F0 m 99 ls (.int z_8.1 :: [])) rfl ?_
            have he : mX6_stick u a0 a1 = (z_8.1, z_8.2) := by rw [mX6_stick, if_neg c_1, if_pos c_2, if_pos c_3, if_neg c_4, if_neg c_6, hz_8]
            exact rM_i hx hb hr hlocks hP hD hS (by rw [he]) (by rw [he]) dX6_stick_99
      · refine lv_aload_n hx hb dX6_stick_35 rfl (lv_at hl 0 rfl) ?_
        refine lv_iconst (v := (4 : Int32)) hx hb dX6_stick_36 (by decide) ?_
        refine hc_M (C := RX6) (ci := 2) (T := TX6) (N := 7) (As := [.int (4 : Int32)]) (rest := []) ⟨hx, hb, hml, hown, hts⟩ (ct_X6_refuse l dC dI ad ca _ u (4 : Int32)) (cwV 1 hts gX6_stick_X6_refuse rfl rfl rfl (by decide +kernel) ⟨Nat.le_of_ble_eq_true rfl, Nat.le_of_ble_eq_true rfl⟩) hP hD (hK.sub [0, 1, 2, 3, 4, 5] rfl) hNW hS hA [0, 1, 2, 3, 4, 5, 6, 7, 8, 9] [] rfl (wr := []) rfl (by decide) (by decide) (by decide) rfl rfl rfl hl.1 rfl (Nat.le_of_ble_eq_true rfl) dX6_stick_37 ⟨Nat.le_of_ble_eq_true rfl, Nat.le_of_ble_eq_true rfl⟩ (fun H locs hP hD hS => ?_)
        generalize hz_9 : mX6_refuse u (4 : Int32) = z_9 at hP hD ⊢
        have hP : va_P (dC, dI) vwCl (WT ad ca z_9.2) H := hP.sub [0, 1, 2, 3, 4, 5, 6, 7, 8, 9] rfl
        have hD : va_D (va_A (WT ad ca u) s.heap.size) (WT ad ca z_9.2) := hD.sub [0, 1, 2, 3, 4, 5, 6, 7, 8, 9] (by decide) rfl
        refine W.eq (g2 := F0 m 40 ls (.int z_9.1 :: [])) rfl ?_
        have he : mX6_stick u a0 a1 = (z_9.1, z_9.2) := by rw [mX6_stick, if_neg c_1, if_pos c_2, if_neg c_3, hz_9]
        exact rM_i hx hb hr hlocks hP hD hS (by rw [he]) (by rw [he]) dX6_stick_40
    · refine lv_aload_n hx hb dX6_stick_20 rfl (lv_at hl 0 rfl) ?_
      refine lv_iconst (v := (2 : Int32)) hx hb dX6_stick_21 (by decide) ?_
      refine hc_M (C := RX6) (ci := 2) (T := TX6) (N := 7) (As := [.int (2 : Int32)]) (rest := []) ⟨hx, hb, hml, hown, hts⟩ (ct_X6_refuse l dC dI ad ca _ u (2 : Int32)) (cwV 1 hts gX6_stick_X6_refuse rfl rfl rfl (by decide +kernel) ⟨Nat.le_of_ble_eq_true rfl, Nat.le_of_ble_eq_true rfl⟩) hP hD (hK.sub [0, 1, 2, 3, 4, 5] rfl) hNW hS hA [0, 1, 2, 3, 4, 5, 6, 7, 8, 9] [] rfl (wr := []) rfl (by decide) (by decide) (by decide) rfl rfl rfl hl.1 rfl (Nat.le_of_ble_eq_true rfl) dX6_stick_22 ⟨Nat.le_of_ble_eq_true rfl, Nat.le_of_ble_eq_true rfl⟩ (fun H locs hP hD hS => ?_)
      generalize hz_10 : mX6_refuse u (2 : Int32) = z_10 at hP hD ⊢
      have hP : va_P (dC, dI) vwCl (WT ad ca z_10.2) H := hP.sub [0, 1, 2, 3, 4, 5, 6, 7, 8, 9] rfl
      have hD : va_D (va_A (WT ad ca u) s.heap.size) (WT ad ca z_10.2) := hD.sub [0, 1, 2, 3, 4, 5, 6, 7, 8, 9] (by decide) rfl
      refine W.eq (g2 := F0 m 25 ls (.int z_10.1 :: [])) rfl ?_
      have he : mX6_stick u a0 a1 = (z_10.1, z_10.2) := by rw [mX6_stick, if_neg c_1, if_neg c_2, hz_10]
      exact rM_i hx hb hr hlocks hP hD hS (by rw [he]) (by rw [he]) dX6_stick_25
  · refine lv_aload_n hx hb dX6_stick_7 rfl (lv_at hl 0 rfl) ?_
    refine lv_iconst (v := (1 : Int32)) hx hb dX6_stick_8 (by decide) ?_
    refine hc_M (C := RX6) (ci := 2) (T := TX6) (N := 7) (As := [.int (1 : Int32)]) (rest := []) ⟨hx, hb, hml, hown, hts⟩ (ct_X6_refuse l dC dI ad ca _ u (1 : Int32)) (cwV 1 hts gX6_stick_X6_refuse rfl rfl rfl (by decide +kernel) ⟨Nat.le_of_ble_eq_true rfl, Nat.le_of_ble_eq_true rfl⟩) hP hD (hK.sub [0, 1, 2, 3, 4, 5] rfl) hNW hS hA [0, 1, 2, 3, 4, 5, 6, 7, 8, 9] [] rfl (wr := []) rfl (by decide) (by decide) (by decide) rfl rfl rfl hl.1 rfl (Nat.le_of_ble_eq_true rfl) dX6_stick_9 ⟨Nat.le_of_ble_eq_true rfl, Nat.le_of_ble_eq_true rfl⟩ (fun H locs hP hD hS => ?_)
    generalize hz_11 : mX6_refuse u (1 : Int32) = z_11 at hP hD ⊢
    have hP : va_P (dC, dI) vwCl (WT ad ca z_11.2) H := hP.sub [0, 1, 2, 3, 4, 5, 6, 7, 8, 9] rfl
    have hD : va_D (va_A (WT ad ca u) s.heap.size) (WT ad ca z_11.2) := hD.sub [0, 1, 2, 3, 4, 5, 6, 7, 8, 9] (by decide) rfl
    refine W.eq (g2 := F0 m 12 ls (.int z_11.1 :: [])) rfl ?_
    have he : mX6_stick u a0 a1 = (z_11.1, z_11.2) := by rw [mX6_stick, if_pos c_1, hz_11]
    exact rM_i hx hb hr hlocks hP hD hS (by rw [he]) (by rw [he]) dX6_stick_12

def mX6_undo (u : TS) : Int32 × TS := (if u.2.2.2.2.2.1.2.1 = 0 then ((-1 : Int32), u) else (((mX4_takeLatest u.2.2.2.2.2.1).2.2.2.1 (mX4_takeLatest u.2.2.2.2.2.1).1.toNatClampNeg), (u.1, u.2.1, u.2.2.1, (u.2.2.2.1.1, u.2.2.2.1.2.1, u.2.2.2.1.2.2.1, (vp_updL u.2.2.2.1.2.2.2 ((mX4_takeLatest u.2.2.2.2.2.1).2.2.2.1 (mX4_takeLatest u.2.2.2.2.2.1).1.toNatClampNeg).toNatClampNeg ((mX4_takeLatest u.2.2.2.2.2.1).2.2.2.2.1 (mX4_takeLatest u.2.2.2.2.2.1).1.toNatClampNeg))), (u.2.2.2.2.1.1, u.2.2.2.2.1.2.1, u.2.2.2.2.1.2.2.1, (vp_updL u.2.2.2.2.1.2.2.2 ((mX4_takeLatest u.2.2.2.2.2.1).2.2.2.1 (mX4_takeLatest u.2.2.2.2.2.1).1.toNatClampNeg).toNatClampNeg ((mX4_takeLatest u.2.2.2.2.2.1).2.2.2.2.2 (mX4_takeLatest u.2.2.2.2.2.1).1.toNatClampNeg))), (mX4_takeLatest u.2.2.2.2.2.1).2, u.2.2.2.2.2.2)))
set_option maxHeartbeats 4000000 in
set_option maxRecDepth 100000 in
theorem ct_X6_undo (l : Launch) (dC : Nat → ClassId) (dI : Nat → Nat → Nat) (ad : Nat → Nat) (ca : Nat → ClassId) (sz : Nat) (u : TS) (hs : vp_in (mX4_takeLatest u.2.2.2.2.2.1).1 16) (hq : vp_in ((mX4_takeLatest u.2.2.2.2.2.1).2.2.2.1 (mX4_takeLatest u.2.2.2.2.2.1).1.toNatClampNeg) 8) : Met l yX6_undo wsX6_undo { frames := 1, cells := 0, slots := 0, locals := 20 } (pM (dC, dI) vwCl [((ca 4), .long), ((ca 5), .long), ((ca 6), .long), ((ca 7), .int), ((ca 8), .long), ((ca 9), .long)] (WT ad ca u) sz [.ref (ad 0)]) (qM (dC, dI) vwCl (WT ad ca u) sz (some (.int (mX6_undo u).1)) (WT ad ca (mX6_undo u).2)) 0 0 (va_A (WT ad ca u) sz) := by
  refine Met.ofW (cc := cX6_undo) (maxL := 3) (ret := (some .int)) (by decide) rfl ?_
  intro p e s m args below meth c s₁ B hml hv
  obtain ⟨rfl, hsz, hP, hK, hD0, hNW⟩ := hv
  subst hsz
  have hx := B.exec
  have hb := B.bytes
  have hr := B.returns
  have hts := atoms_spec (ws := wsX6_undo) B.pre
  have hown : s.vm.findClass RX6 = some m.cls := findClass_of_methodNamed B.named
  have hlocks := B.notSynchronized
  have hin0 : ∀ w ∈ wsX00, w ∈ wsX6_undo := by decide +kernel
  have hin4 : ∀ w ∈ wsX40, w ∈ wsX6_undo := by decide +kernel
  have hin6 : ∀ w ∈ wsX60, w ∈ wsX6_undo := by decide +kernel
  have hD : va_D (va_A (WT ad ca u) s.heap.size) (WT ad ca u) := hD0.self
  have hA : ∀ q : Nat, s.heap.size ≤ q → va_A (WT ad ca u) s.heap.size q := fun q h => Or.inr h
  have hS : va_S (va_A (WT ad ca u) s.heap.size) s.heap s.heap [] := va_S.rf
  have hl := lv_entry ([.ref (ad 0)]) (n := 3) (Nat.le_of_ble_eq_true rfl)
  rw [lg_entry_eq]
  generalize (lg_sl ([.ref (ad 0)]) ++ List.replicate (3 - (lg_sl ([.ref (ad 0)])).length) Slot.unset).toArray = ls at hl ⊢
  have hl : lv_has ls 3 [(0, .ref (ad 0))] := hl
  refine lv_aload_n hx hb dX6_undo_0 rfl (lv_at hl 0 rfl) ?_
  refine va_get (D := (dC, dI)) (ci := 2) (v := .ref (ad 3)) (C := RX6) (T := TX6) (N := 7) hx hb hts hin6 hown hK hP 0 rfl rfl 2 (by decide) (hts (.fieldLink RX6 24 "SnapTable" "trail" "LSnapTable$Trail;") (by decide +kernel)) (fun _ h9 => h9) rfl dX6_undo_1 ?_
  refine va_getN (D := (dC, dI)) (ci := 1) (v := .int u.2.2.2.2.2.1.2.1) (C := RX4) (T := TX4) (N := 5) hx hb hts hin4 hown hK hP 3 rfl rfl 4 (by decide) (va_Nw.use rfl hNW.2.2.2.2.2.1) (fun _ h9 => h9) rfl dX6_undo_4 ?_
  refine lv_if_ne (tgt := 12) hx hb dX6_undo_7 (by decide) (fun c_1 => ?_) (fun c_1 => ?_)
  · refine lv_aload_n hx hb dX6_undo_12 rfl (lv_at hl 0 rfl) ?_
    refine va_get (D := (dC, dI)) (ci := 2) (v := .ref (ad 3)) (C := RX6) (T := TX6) (N := 7) hx hb hts hin6 hown hK hP 0 rfl rfl 2 (by decide) (hts (.fieldLink RX6 24 "SnapTable" "trail" "LSnapTable$Trail;") (by decide +kernel)) (fun _ h9 => h9) rfl dX6_undo_13 ?_
    refine hc_M (C := RX4) (ci := 1) (T := TX4) (N := 5) (As := []) (rest := []) ⟨hx, hb, hml, hown, hts⟩ (ct_X4_takeLatest l dC dI (ad 3) (ad 7) (ad 8) (ad 9) (ca 7) (ca 8) (ca 9) _ u.2.2.2.2.2.1) (cwV 0 hts gX6_undo_X4_takeLatest rfl rfl rfl (by decide +kernel) ⟨Nat.le_of_ble_eq_true rfl, Nat.le_of_ble_eq_true rfl⟩) hP hD (hK.sub [3, 4, 5] rfl) hNW hS hA [3, 7, 8, 9] [0, 1, 2, 4, 5, 6] rfl (wr := [((ad 0), .inr (2, [.ref (ad 1), .ref (ad 2), .ref (ad 3), .ref (ad 4), .int u.1, .int u.2.1, .int u.2.2.1])), ((ad 1), .inr (0, [.int 0, .ref (ad 5), .long u.2.2.2.1.1, .long u.2.2.2.1.2.1, .long u.2.2.2.1.2.2.1])), ((ad 2), .inr (0, [.int 1, .ref (ad 6), .long u.2.2.2.2.1.1, .long u.2.2.2.2.1.2.1, .long u.2.2.2.2.1.2.2.1])), ((ad 4), .inl ((ca 4), 4, .inr (.inl u.2.2.2.2.2.2))), ((ad 5), .inl ((ca 5), 8, .inr (.inl u.2.2.2.1.2.2.2))), ((ad 6), .inl ((ca 6), 8, .inr (.inl u.2.2.2.2.1.2.2.2)))]) rfl (by decide) (by decide) (by decide) rfl rfl rfl hl.1 rfl (Nat.le_of_ble_eq_true rfl) dX6_undo_16 ⟨Nat.le_of_ble_eq_true rfl, Nat.le_of_ble_eq_true rfl⟩ (fun H locs hP hD hS => ?_)
    generalize hz_2 : mX4_takeLatest u.2.2.2.2.2.1 = z_2 at hP hD ⊢
    have hP : va_P (dC, dI) vwCl (WT ad ca (u.1, u.2.1, u.2.2.1, u.2.2.2.1, u.2.2.2.2.1, z_2.2, u.2.2.2.2.2.2)) H := hP.sub [0, 1, 2, 6, 3, 4, 5, 7, 8, 9] rfl
    have hD : va_D (va_A (WT ad ca u) s.heap.size) (WT ad ca (u.1, u.2.1, u.2.2.1, u.2.2.2.1, u.2.2.2.2.1, z_2.2, u.2.2.2.2.2.2)) := hD.sub [0, 1, 2, 6, 3, 4, 5, 7, 8, 9] (by decide) rfl
    refine W.eq (g2 := F0 m 19 ls (.int z_2.1 :: [])) rfl ?_
    refine lv_istore_n (lv' := [(1, .int z_2.1), (0, .ref (ad 0))]) hx hb dX6_undo_19 rfl hl (by decide) rfl (fun ls hl => ?_)
    refine lv_aload_n hx hb dX6_undo_20 rfl (lv_at hl 1 rfl) ?_
    refine va_get (D := (dC, dI)) (ci := 2) (v := .ref (ad 3)) (C := RX6) (T := TX6) (N := 7) hx hb hts hin6 hown hK hP 0 rfl rfl 2 (by decide) (hts (.fieldLink RX6 24 "SnapTable" "trail" "LSnapTable$Trail;") (by decide +kernel)) (fun _ h9 => h9) rfl dX6_undo_21 ?_
    refine va_getN (D := (dC, dI)) (ci := 1) (v := .ref (ad 7)) (C := RX4) (T := TX4) (N := 5) hx hb hts hin4 hown hK hP 3 rfl rfl 0 (by decide) (va_Nw.use rfl hNW.2.2.1) (fun _ h9 => h9) rfl dX6_undo_24 ?_
    refine lv_iload_n hx hb dX6_undo_27 rfl (lv_at hl 0 rfl) ?_
    refine va_iald hx hb hK hP 7 3 rfl rfl (by rw [← hz_2]; exact hs) dX6_undo_28 ?_
    refine lv_istore_n (lv' := [(2, .int (z_2.2.2.2.1 z_2.1.toNatClampNeg)), (1, .int z_2.1), (0, .ref (ad 0))]) hx hb dX6_undo_29 rfl hl (by decide) rfl (fun ls hl => ?_)
    refine lv_aload_n hx hb dX6_undo_30 rfl (lv_at hl 2 rfl) ?_
    refine va_get (D := (dC, dI)) (ci := 2) (v := .ref (ad 1)) (C := RX6) (T := TX6) (N := 7) hx hb hts hin6 hown hK hP 0 rfl rfl 0 (by decide) (hts (.fieldLink RX6 12 "SnapTable" "widths" "LSnapTable$Axis;") (by decide +kernel)) (fun _ h9 => h9) rfl dX6_undo_31 ?_
    refine va_getN (D := (dC, dI)) (ci := 0) (v := .ref (ad 5)) (C := RX0) (T := TX0) (N := 5) hx hb hts hin0 hown hK hP 1 rfl rfl 1 (by decide) (va_Nw.use rfl hNW.1) (fun _ h9 => h9) rfl dX6_undo_34 ?_
    refine lv_iload_n hx hb dX6_undo_37 rfl (lv_at hl 0 rfl) ?_
    refine lv_aload_n hx hb dX6_undo_38 rfl (lv_at hl 2 rfl) ?_
    refine va_get (D := (dC, dI)) (ci := 2) (v := .ref (ad 3)) (C := RX6) (T := TX6) (N := 7) hx hb hts hin6 hown hK hP 0 rfl rfl 2 (by decide) (hts (.fieldLink RX6 24 "SnapTable" "trail" "LSnapTable$Trail;") (by decide +kernel)) (fun _ h9 => h9) rfl dX6_undo_39 ?_
    refine va_getN (D := (dC, dI)) (ci := 1) (v := .ref (ad 8)) (C := RX4) (T := TX4) (N := 5) hx hb hts hin4 hown hK hP 3 rfl rfl 1 (by decide) (va_Nw.use rfl hNW.2.2.2.1) (fun _ h9 => h9) rfl dX6_undo_42 ?_
    refine lv_iload_n hx hb dX6_undo_45 rfl (lv_at hl 1 rfl) ?_
    refine va_lald hx hb hK hP 8 4 rfl rfl (by rw [← hz_2]; exact hs) dX6_undo_46 ?_
    refine va_last hx hb hK hP hD hS 5 1 rfl rfl (by rw [← hz_2]; exact hq) dX6_undo_47 (fun H locs hP hD hS => ?_)
    have hP : va_P (dC, dI) vwCl (WT ad ca (u.1, u.2.1, u.2.2.1, (u.2.2.2.1.1, u.2.2.2.1.2.1, u.2.2.2.1.2.2.1, (vp_updL u.2.2.2.1.2.2.2 (z_2.2.2.2.1 z_2.1.toNatClampNeg).toNatClampNeg (z_2.2.2.2.2.1 z_2.1.toNatClampNeg))), u.2.2.2.2.1, z_2.2, u.2.2.2.2.2.2)) H := hP
    have hD : va_D (va_A (WT ad ca u) s.heap.size) (WT ad ca (u.1, u.2.1, u.2.2.1, (u.2.2.2.1.1, u.2.2.2.1.2.1, u.2.2.2.1.2.2.1, (vp_updL u.2.2.2.1.2.2.2 (z_2.2.2.2.1 z_2.1.toNatClampNeg).toNatClampNeg (z_2.2.2.2.2.1 z_2.1.toNatClampNeg))), u.2.2.2.2.1, z_2.2, u.2.2.2.2.2.2)) := hD
    refine lv_aload_n hx hb dX6_undo_48 rfl (lv_at hl 2 rfl) ?_
    refine va_get (D := (dC, dI)) (ci := 2) (v := .ref (ad 2)) (C := RX6) (T := TX6) (N := 7) hx hb hts hin6 hown hK hP 0 rfl rfl 1 (by decide) (hts (.fieldLink RX6 18 "SnapTable" "heights" "LSnapTable$Axis;") (by decide +kernel)) (fun _ h9 => h9) rfl dX6_undo_49 ?_
    refine va_getN (D := (dC, dI)) (ci := 0) (v := .ref (ad 6)) (C := RX0) (T := TX0) (N := 5) hx hb hts hin0 hown hK hP 2 rfl rfl 1 (by decide) (va_Nw.use rfl hNW.1) (fun _ h9 => h9) rfl dX6_undo_52 ?_
    refine lv_iload_n hx hb dX6_undo_55 rfl (lv_at hl 0 rfl) ?_
    refine lv_aload_n hx hb dX6_undo_56 rfl (lv_at hl 2 rfl) ?_
    refine va_get (D := (dC, dI)) (ci := 2) (v := .ref (ad 3)) (C := RX6) (T := TX6) (N := 7) hx hb hts hin6 hown hK hP 0 rfl rfl 2 (by decide) (hts (.fieldLink RX6 24 "SnapTable" "trail" "LSnapTable$Trail;") (by decide +kernel)) (fun _ h9 => h9) rfl dX6_undo_57 ?_
    refine va_getN (D := (dC, dI)) (ci := 1) (v := .ref (ad 9)) (C := RX4) (T := TX4) (N := 5) hx hb hts hin4 hown hK hP 3 rfl rfl 2 (by decide) (va_Nw.use rfl hNW.2.2.2.2.1) (fun _ h9 => h9) rfl dX6_undo_60 ?_
    refine lv_iload_n hx hb dX6_undo_63 rfl (lv_at hl 1 rfl) ?_
    refine va_lald hx hb hK hP 9 5 rfl rfl (by rw [← hz_2]; exact hs) dX6_undo_64 ?_
    refine va_last hx hb hK hP hD hS 6 2 rfl rfl (by rw [← hz_2]; exact hq) dX6_undo_65 (fun H locs hP hD hS => ?_)
    have hP : va_P (dC, dI) vwCl (WT ad ca (u.1, u.2.1, u.2.2.1, (u.2.2.2.1.1, u.2.2.2.1.2.1, u.2.2.2.1.2.2.1, (vp_updL u.2.2.2.1.2.2.2 (z_2.2.2.2.1 z_2.1.toNatClampNeg).toNatClampNeg (z_2.2.2.2.2.1 z_2.1.toNatClampNeg))), (u.2.2.2.2.1.1, u.2.2.2.2.1.2.1, u.2.2.2.2.1.2.2.1, (vp_updL u.2.2.2.2.1.2.2.2 (z_2.2.2.2.1 z_2.1.toNatClampNeg).toNatClampNeg (z_2.2.2.2.2.2 z_2.1.toNatClampNeg))), z_2.2, u.2.2.2.2.2.2)) H := hP
    have hD : va_D (va_A (WT ad ca u) s.heap.size) (WT ad ca (u.1, u.2.1, u.2.2.1, (u.2.2.2.1.1, u.2.2.2.1.2.1, u.2.2.2.1.2.2.1, (vp_updL u.2.2.2.1.2.2.2 (z_2.2.2.2.1 z_2.1.toNatClampNeg).toNatClampNeg (z_2.2.2.2.2.1 z_2.1.toNatClampNeg))), (u.2.2.2.2.1.1, u.2.2.2.2.1.2.1, u.2.2.2.2.1.2.2.1, (vp_updL u.2.2.2.2.1.2.2.2 (z_2.2.2.2.1 z_2.1.toNatClampNeg).toNatClampNeg (z_2.2.2.2.2.2 z_2.1.toNatClampNeg))), z_2.2, u.2.2.2.2.2.2)) := hD
    refine lv_iload_n hx hb dX6_undo_66 rfl (lv_at hl 0 rfl) ?_
    have he : mX6_undo u = ((z_2.2.2.2.1 z_2.1.toNatClampNeg), (u.1, u.2.1, u.2.2.1, (u.2.2.2.1.1, u.2.2.2.1.2.1, u.2.2.2.1.2.2.1, (vp_updL u.2.2.2.1.2.2.2 (z_2.2.2.2.1 z_2.1.toNatClampNeg).toNatClampNeg (z_2.2.2.2.2.1 z_2.1.toNatClampNeg))), (u.2.2.2.2.1.1, u.2.2.2.2.1.2.1, u.2.2.2.2.1.2.2.1, (vp_updL u.2.2.2.2.1.2.2.2 (z_2.2.2.2.1 z_2.1.toNatClampNeg).toNatClampNeg (z_2.2.2.2.2.2 z_2.1.toNatClampNeg))), z_2.2, u.2.2.2.2.2.2)) := by rw [mX6_undo, if_neg c_1, hz_2]
    exact rM_i hx hb hr hlocks hP hD hS (by rw [he]) (by rw [he]) dX6_undo_67
  · refine lv_iconst (v := (-1 : Int32)) hx hb dX6_undo_10 (by decide) ?_
    have he : mX6_undo u = ((-1 : Int32), u) := by rw [mX6_undo, if_pos c_1]
    exact rM_i hx hb hr hlocks hP hD hS (by rw [he]) (by rw [he]) dX6_undo_11
