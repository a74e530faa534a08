/-- every leap is a finite number other than 0 -/
theorem leap_ok (i : Int32) : Jvm.FP.Core.DFin (mX2_leap i) ∧ ¬ Jvm.FP.Core.DZero (mX2_leap i) := by
  rw [Jvm.FP.Core.fin_bits, Jvm.FP.Core.zero_bits2]
  unfold mX2_leap
  repeat' split
  all_goals decide

def mX2_beyondAll : UInt64 := (9218868437227405312 : UInt64)
set_option maxHeartbeats 4000000 in
set_option maxRecDepth 100000 in
theorem ct_X2_beyondAll (l : Launch) : Met l yX2_beyondAll wsX2_beyondAll { frames := 0, cells := 0, slots := 0, locals := 0 } (fun v _ => v = ([] : List Value).toArray) (k2_QcV (.double (mX2_beyondAll))) 0 0 (fun _ => False) := by
  refine Met.ofW (cc := cX2_beyondAll) (maxL := 0) (ret := (some .double)) (by decide) rfl ?_
  intro p e s m args below meth c s₁ B hml hv
  subst hv
  have hx := B.exec
  have hb := B.bytes
  have hr := B.returns
  have hts := atoms_spec (ws := wsX2_beyondAll) B.pre
  have hown : s.vm.findClass RX2 = some m.cls := findClass_of_methodNamed B.named
  have hlocks := B.notSynchronized
  have hl := lv_entry ([]) (n := 0) (Nat.le_of_ble_eq_true rfl)
  rw [lg_entry_eq]
  generalize (lg_sl ([]) ++ List.replicate (0 - (lg_sl ([])).length) Slot.unset).toArray = ls at hl ⊢
  have hl : lv_has ls 0 [] := hl
  refine lv_ldc2d (v := (9218868437227405312 : UInt64)) hx hb hown (hts (.constantDouble RX2 27 (9218868437227405312)) (by decide +kernel)) dX2_beyondAll_0 ?_
  exact W.dret (v := (9218868437227405312 : UInt64)) hx hb hr (fun t ht _ => ⟨by rw [mX2_beyondAll], ht⟩) (fun _ h => by cases h) dX2_beyondAll_3

def mX2_scaled_L (a0 : UInt64) (a1 : Int32) : Nat → Int32 → UInt64 → Int32 → UInt64
  | 0, _, _, _ => default
  | n + 1, r, v, i => (if (10 : Int32) ≤ i then v else (if ((r >>> (i &&& 31)) &&& (1 : Int32)) = 0 then (mX2_scaled_L a0 a1 n r v (i + 1)) else (if 0 ≤ a1 then (mX2_scaled_L a0 a1 n r (FP.dmul v (mX2_leap i)) (i + 1)) else (mX2_scaled_L a0 a1 n r (FP.ddiv v (mX2_leap i)) (i + 1)))))
def mX2_scaled (a0 : UInt64) (a1 : Int32) : UInt64 := (if 0 ≤ a1 then (mX2_scaled_L a0 a1 11 a1 a0 (0 : Int32)) else (mX2_scaled_L a0 a1 11 (-a1) a0 (0 : Int32)))
set_option maxHeartbeats 4000000 in
set_option maxRecDepth 100000 in
theorem ct_X2_scaled (l : Launch) (a0 : UInt64) (a1 : Int32) (hn0 : FP.dIsNaN a0 = false) : Met l yX2_scaled wsX2_scaled { frames := 1, cells := 0, slots := 0, locals := 20 } (fun v _ => v = ([.double a0, .int a1] : List Value).toArray) (k2_QcV (.double (mX2_scaled a0 a1))) 0 0 (fun _ => False) := by
  refine Met.ofW (cc := cX2_scaled) (maxL := 7) (ret := (some .double)) (by decide) rfl ?_
  intro p e s m args below meth c s₁ B hml hv
  subst hv
  have hx := B.exec
  have hb := B.bytes
  have hr := B.returns
  have hts := atoms_spec (ws := wsX2_scaled) B.pre
  have hown : s.vm.findClass RX2 = some m.cls := findClass_of_methodNamed B.named
  have hlocks := B.notSynchronized
  have hl := lv_entry ([.double a0, .int a1]) (n := 7) (Nat.le_of_ble_eq_true rfl)
  rw [lg_entry_eq]
  generalize (lg_sl ([.double a0, .int a1]) ++ List.replicate (7 - (lg_sl ([.double a0, .int a1])).length) Slot.unset).toArray = ls at hl ⊢
  have hl : lv_has ls 7 [(0, .double a0), (2, .int a1)] := hl
  refine lv_iload_n hx hb dX2_scaled_0 rfl (lv_at hl 1 rfl) ?_
  refine lv_if_ge (tgt := 9) hx hb dX2_scaled_1 (by decide) (fun c_1 => ?_) (fun c_1 => ?_)
  · refine lv_iload_n hx hb dX2_scaled_9 rfl (lv_at hl 1 rfl) ?_
    refine lv_istore_n (lv' := [(3, .int a1), (0, .double a0), (2, .int a1)]) hx hb dX2_scaled_10 rfl hl (by decide) rfl (fun ls hl => ?_)
    refine lv_dload_n hx hb dX2_scaled_11 rfl (lv_at hl 1 rfl) ?_
    refine lv_dstore (lv' := [(4, .double a0), (3, .int a1), (0, .double a0), (2, .int a1)]) hx hb dX2_scaled_12 hl (by decide) rfl (fun ls hl => ?_)
    refine lv_iconst (v := (0 : Int32)) hx hb dX2_scaled_14 (by decide) ?_
    refine lv_istore (lv' := [(6, .int (0 : Int32)), (4, .double a0), (3, .int a1), (0, .double a0), (2, .int a1)]) hx hb dX2_scaled_15 hl (by decide) rfl (fun ls hl => ?_)
    have loop : ∀ (n : Nat) (r : Int32) (v : UInt64) (i : Int32) (ls : Array Slot), LU 10 n i → (FP.dIsNaN v = false) → mX2_scaled_L a0 a1 n r v i = mX2_scaled a0 a1 → lv_has ls 7 [(3, .int r), (4, .double v), (6, .int i), (0, .double a0), (2, .int a1)] → W p l e (headSpec wsX2_scaled { frames := 1, cells := 0, slots := 0, locals := 20 }).room s m ([.double a0, .int a1] : List Value).toArray below meth c s.heap [] 0 0 (MQ below (k2_QcV (.double (mX2_scaled a0 a1))) ([.double a0, .int a1] : List Value).toArray s 0 0 (fun _ => False)) (F0 m 17 ls []) := by
      intro n
      induction n with
      | zero => intro r v i ls hm; exact absurd hm (fun h => h.z)
      | succ n ih =>
        intro r v i ls hm hnn heq hl
        refine lv_iload hx hb dX2_scaled_17 (lv_at hl 2 rfl) ?_
        refine lv_bipush (v := (10 : Int32)) hx hb dX2_scaled_19 (by decide) ?_
        refine lv_icmp_ge (tgt := 64) hx hb dX2_scaled_21 (by decide) (fun c_2 => ?_) (fun c_2 => ?_)
        · refine lv_dload hx hb dX2_scaled_64 (lv_at hl 1 rfl) ?_
          exact W.dret (v := v) hx hb hr (fun t ht _ => ⟨by rw [← heq, mX2_scaled_L, if_pos c_2], ht⟩) (fun _ h => by cases h) dX2_scaled_66
        · refine lv_iload_n hx hb dX2_scaled_24 rfl (lv_at hl 0 rfl) ?_
          refine lv_iload hx hb dX2_scaled_25 (lv_at hl 2 rfl) ?_
          refine lv_ishr hx hb dX2_scaled_27 ?_
          refine lv_iconst (v := (1 : Int32)) hx hb dX2_scaled_28 (by decide) ?_
          refine lv_iand hx hb dX2_scaled_29 ?_
          refine lv_if_eq (tgt := 58) hx hb dX2_scaled_30 (by decide) (fun c_3 => ?_) (fun c_3 => ?_)
          · refine lv_iinc (v := (i + 1)) (lv' := [(6, .int (i + 1)), (3, .int r), (4, .double v), (0, .double a0), (2, .int a1)]) hx hb dX2_scaled_58 hl (k := 2) rfl rfl (by decide) rfl (fun ls hl => ?_)
            refine lv_goto (tgt := 17) hx hb dX2_scaled_61 (by decide) ?_
            exact ih r v (i + 1) ls (LU.up (B := 10) (by decide) hm (by assumption)) (by first | exact hnn | exact Jvm.FP.Core.ddiv_out hnn (leap_ok _).1 (leap_ok _).2 | exact Jvm.FP.Core.dmul_out' hnn (leap_ok _).1 (leap_ok _).2) (by rw [← heq, mX2_scaled_L, if_neg c_2, if_pos c_3]) (lv_sub hl [1, 2, 0, 3, 4] rfl)
          · refine lv_iload_n hx hb dX2_scaled_33 rfl (lv_at hl 4 rfl) ?_
            refine lv_if_ge (tgt := 48) hx hb dX2_scaled_34 (by decide) (fun c_4 => ?_) (fun c_4 => ?_)
            · refine lv_dload hx hb dX2_scaled_48 (lv_at hl 1 rfl) ?_
              refine lv_iload hx hb dX2_scaled_50 (lv_at hl 2 rfl) ?_
              refine hc_S (As := [.int i]) (rest := [.double v]) ⟨hx, hb, hml, hown, hts⟩ (ct_X2_leap l i) (va_cwS 1 hts gX2_scaled_X2_leap rfl rfl rfl (by decide +kernel) ⟨Nat.le_of_ble_eq_true rfl, Nat.le_of_ble_eq_true rfl⟩) rfl hl.1 rfl (Nat.le_of_ble_eq_true rfl) dX2_scaled_52 ⟨Nat.le_of_ble_eq_true rfl, Nat.le_of_ble_eq_true rfl⟩ ?_
              refine lv_dmul hx hb dX2_scaled_55 (nn64 (Jvm.FP.Core.dmul_out' hnn (leap_ok _).1 (leap_ok _).2)) ?_
              refine lv_dstore (lv' := [(4, .double (FP.dmul v (mX2_leap i))), (3, .int r), (6, .int i), (0, .double a0), (2, .int a1)]) hx hb dX2_scaled_56 hl (by decide) rfl (fun ls hl => ?_)
              refine lv_iinc (v := (i + 1)) (lv' := [(6, .int (i + 1)), (4, .double (FP.dmul v (mX2_leap i))), (3, .int r), (0, .double a0), (2, .int a1)]) hx hb dX2_scaled_58 hl (k := 2) rfl rfl (by decide) rfl (fun ls hl => ?_)
              refine lv_goto (tgt := 17) hx hb dX2_scaled_61 (by decide) ?_
              exact ih r (FP.dmul v (mX2_leap i)) (i + 1) ls (LU.up (B := 10) (by decide) hm (by assumption)) (by first | exact hnn | exact Jvm.FP.Core.ddiv_out hnn (leap_ok _).1 (leap_ok _).2 | exact Jvm.FP.Core.dmul_out' hnn (leap_ok _).1 (leap_ok _).2) (by rw [← heq, mX2_scaled_L, if_neg c_2, if_neg c_3, if_pos c_4]) (lv_sub hl [2, 1, 0, 3, 4] rfl)
            · refine lv_dload hx hb dX2_scaled_37 (lv_at hl 1 rfl) ?_
              refine lv_iload hx hb dX2_scaled_39 (lv_at hl 2 rfl) ?_
              refine hc_S (As := [.int i]) (rest := [.double v]) ⟨hx, hb, hml, hown, hts⟩ (ct_X2_leap l i) (va_cwS 1 hts gX2_scaled_X2_leap rfl rfl rfl (by decide +kernel) ⟨Nat.le_of_ble_eq_true rfl, Nat.le_of_ble_eq_true rfl⟩) rfl hl.1 rfl (Nat.le_of_ble_eq_true rfl) dX2_scaled_41 ⟨Nat.le_of_ble_eq_true rfl, Nat.le_of_ble_eq_true rfl⟩ ?_
              refine lv_ddiv hx hb dX2_scaled_44 (nn64 (Jvm.FP.Core.ddiv_out hnn (leap_ok _).1 (leap_ok _).2)) ?_
              refine lv_goto (tgt := 56) hx hb dX2_scaled_45 (by decide) ?_
              refine lv_dstore (lv' := [(4, .double (FP.ddiv v (mX2_leap i))), (3, .int r), (6, .int i), (0, .double a0), (2, .int a1)]) hx hb dX2_scaled_56 hl (by decide) rfl (fun ls hl => ?_)
              refine lv_iinc (v := (i + 1)) (lv' := [(6, .int (i + 1)), (4, .double (FP.ddiv v (mX2_leap i))), (3, .int r), (0, .double a0), (2, .int a1)]) hx hb dX2_scaled_58 hl (k := 2) rfl rfl (by decide) rfl (fun ls hl => ?_)
              refine lv_goto (tgt := 17) hx hb dX2_scaled_61 (by decide) ?_
              exact ih r (FP.ddiv v (mX2_leap i)) (i + 1) ls (LU.up (B := 10) (by decide) hm (by assumption)) (by first | exact hnn | exact Jvm.FP.Core.ddiv_out hnn (leap_ok _).1 (leap_ok _).2 | exact Jvm.FP.Core.dmul_out' hnn (leap_ok _).1 (leap_ok _).2) (by rw [← heq, mX2_scaled_L, if_neg c_2, if_neg c_3, if_neg c_4]) (lv_sub hl [2, 1, 0, 3, 4] rfl)
    exact loop 11 a1 a0 (0 : Int32) ls (by unfold LU; decide) (hn0) (by rw [mX2_scaled, if_pos c_1]) (lv_sub hl [2, 1, 0, 3, 4] rfl)
  · refine lv_iload_n hx hb dX2_scaled_4 rfl (lv_at hl 1 rfl) ?_
    refine lv_ineg hx hb dX2_scaled_5 ?_
    refine lv_goto (tgt := 10) hx hb dX2_scaled_6 (by decide) ?_
    refine lv_istore_n (lv' := [(3, .int (-a1)), (0, .double a0), (2, .int a1)]) hx hb dX2_scaled_10 rfl hl (by decide) rfl (fun ls hl => ?_)
    refine lv_dload_n hx hb dX2_scaled_11 rfl (lv_at hl 1 rfl) ?_
    refine lv_dstore (lv' := [(4, .double a0), (3, .int (-a1)), (0, .double a0), (2, .int a1)]) hx hb dX2_scaled_12 hl (by decide) rfl (fun ls hl => ?_)
    refine lv_iconst (v := (0 : Int32)) hx hb dX2_scaled_14 (by decide) ?_
    refine lv_istore (lv' := [(6, .int (0 : Int32)), (4, .double a0), (3, .int (-a1)), (0, .double a0), (2, .int a1)]) hx hb dX2_scaled_15 hl (by decide) rfl (fun ls hl => ?_)
    have loop : ∀ (n : Nat) (r : Int32) (v : UInt64) (i : Int32) (ls : Array Slot), LU 10 n i → (FP.dIsNaN v = false) → mX2_scaled_L a0 a1 n r v i = mX2_scaled a0 a1 → lv_has ls 7 [(3, .int r), (4, .double v), (6, .int i), (0, .double a0), (2, .int a1)] → W p l e (headSpec wsX2_scaled { frames := 1, cells := 0, slots := 0, locals := 20 }).room s m ([.double a0, .int a1] : List Value).toArray below meth c s.heap [] 0 0 (MQ below (k2_QcV (.double (mX2_scaled a0 a1))) ([.double a0, .int a1] : List Value).toArray s 0 0 (fun _ => False)) (F0 m 17 ls []) := by
      intro n
      induction n with
      | zero => intro r v i ls hm; exact absurd hm (fun h => h.z)
      | succ n ih =>
        intro r v i ls hm hnn heq hl
        refine lv_iload hx hb dX2_scaled_17 (lv_at hl 2 rfl) ?_
        refine lv_bipush (v := (10 : Int32)) hx hb dX2_scaled_19 (by decide) ?_
        refine lv_icmp_ge (tgt := 64) hx hb dX2_scaled_21 (by decide) (fun c_5 => ?_) (fun c_5 => ?_)
        · refine lv_dload hx hb dX2_scaled_64 (lv_at hl 1 rfl) ?_
          exact W.dret (v := v) hx hb hr (fun t ht _ => ⟨by rw [← heq, mX2_scaled_L, if_pos c_5], ht⟩) (fun _ h => by cases h) dX2_scaled_66
        · refine lv_iload_n hx hb dX2_scaled_24 rfl (lv_at hl 0 rfl) ?_
          refine lv_iload hx hb dX2_scaled_25 (lv_at hl 2 rfl) ?_
          refine lv_ishr hx hb dX2_scaled_27 ?_
          refine lv_iconst (v := (1 : Int32)) hx hb dX2_scaled_28 (by decide) ?_
          refine lv_iand hx hb dX2_scaled_29 ?_
          refine lv_if_eq (tgt := 58) hx hb dX2_scaled_30 (by decide) (fun c_6 => ?_) (fun c_6 => ?_)
          · refine lv_iinc (v := (i + 1)) (lv' := [(6, .int (i + 1)), (3, .int r), (4, .double v), (0, .double a0), (2, .int a1)]) hx hb dX2_scaled_58 hl (k := 2) rfl rfl (by decide) rfl (fun ls hl => ?_)
            refine lv_goto (tgt := 17) hx hb dX2_scaled_61 (by decide) ?_
            exact ih r v (i + 1) ls (LU.up (B := 10) (by decide) hm (by assumption)) (by first | exact hnn | exact Jvm.FP.Core.ddiv_out hnn (leap_ok _).1 (leap_ok _).2 | exact Jvm.FP.Core.dmul_out' hnn (leap_ok _).1 (leap_ok _).2) (by rw [← heq, mX2_scaled_L, if_neg c_5, if_pos c_6]) (lv_sub hl [1, 2, 0, 3, 4] rfl)
          · refine lv_iload_n hx hb dX2_scaled_33 rfl (lv_at hl 4 rfl) ?_
            refine lv_if_ge (tgt := 48) hx hb dX2_scaled_34 (by decide) (fun c_7 => ?_) (fun c_7 => ?_)
            · refine lv_dload hx hb dX2_scaled_48 (lv_at hl 1 rfl) ?_
              refine lv_iload hx hb dX2_scaled_50 (lv_at hl 2 rfl) ?_
              refine hc_S (As := [.int i]) (rest := [.double v]) ⟨hx, hb, hml, hown, hts⟩ (ct_X2_leap l i) (va_cwS 1 hts gX2_scaled_X2_leap rfl rfl rfl (by decide +kernel) ⟨Nat.le_of_ble_eq_true rfl, Nat.le_of_ble_eq_true rfl⟩) rfl hl.1 rfl (Nat.le_of_ble_eq_true rfl) dX2_scaled_52 ⟨Nat.le_of_ble_eq_true rfl, Nat.le_of_ble_eq_true rfl⟩ ?_
              refine lv_dmul hx hb dX2_scaled_55 (nn64 (Jvm.FP.Core.dmul_out' hnn (leap_ok _).1 (leap_ok _).2)) ?_
              refine lv_dstore (lv' := [(4, .double (FP.dmul v (mX2_leap i))), (3, .int r), (6, .int i), (0, .double a0), (2, .int a1)]) hx hb dX2_scaled_56 hl (by decide) rfl (fun ls hl => ?_)
              refine lv_iinc (v := (i + 1)) (lv' := [(6, .int (i + 1)), (4, .double (FP.dmul v (mX2_leap i))), (3, .int r), (0, .double a0), (2, .int a1)]) hx hb dX2_scaled_58 hl (k := 2) rfl rfl (by decide) rfl (fun ls hl => ?_)
              refine lv_goto (tgt := 17) hx hb dX2_scaled_61 (by decide) ?_
              exact ih r (FP.dmul v (mX2_leap i)) (i + 1) ls (LU.up (B := 10) (by decide) hm (by assumption)) (by first | exact hnn | exact Jvm.FP.Core.ddiv_out hnn (leap_ok _).1 (leap_ok _).2 | exact Jvm.FP.Core.dmul_out' hnn (leap_ok _).1 (leap_ok _).2) (by rw [← heq, mX2_scaled_L, if_neg c_5, if_neg c_6, if_pos c_7]) (lv_sub hl [2, 1, 0, 3, 4] rfl)
            · refine lv_dload hx hb dX2_scaled_37 (lv_at hl 1 rfl) ?_
              refine lv_iload hx hb dX2_scaled_39 (lv_at hl 2 rfl) ?_
              refine hc_S (As := [.int i]) (rest := [.double v]) ⟨hx, hb, hml, hown, hts⟩ (ct_X2_leap l i) (va_cwS 1 hts gX2_scaled_X2_leap rfl rfl rfl (by decide +kernel) ⟨Nat.le_of_ble_eq_true rfl, Nat.le_of_ble_eq_true rfl⟩) rfl hl.1 rfl (Nat.le_of_ble_eq_true rfl) dX2_scaled_41 ⟨Nat.le_of_ble_eq_true rfl, Nat.le_of_ble_eq_true rfl⟩ ?_
              refine lv_ddiv hx hb dX2_scaled_44 (nn64 (Jvm.FP.Core.ddiv_out hnn (leap_ok _).1 (leap_ok _).2)) ?_
              refine lv_goto (tgt := 56) hx hb dX2_scaled_45 (by decide) ?_
              refine lv_dstore (lv' := [(4, .double (FP.ddiv v (mX2_leap i))), (3, .int r), (6, .int i), (0, .double a0), (2, .int a1)]) hx hb dX2_scaled_56 hl (by decide) rfl (fun ls hl => ?_)
              refine lv_iinc (v := (i + 1)) (lv' := [(6, .int (i + 1)), (4, .double (FP.ddiv v (mX2_leap i))), (3, .int r), (0, .double a0), (2, .int a1)]) hx hb dX2_scaled_58 hl (k := 2) rfl rfl (by decide) rfl (fun ls hl => ?_)
              refine lv_goto (tgt := 17) hx hb dX2_scaled_61 (by decide) ?_
              exact ih r (FP.ddiv v (mX2_leap i)) (i + 1) ls (LU.up (B := 10) (by decide) hm (by assumption)) (by first | exact hnn | exact Jvm.FP.Core.ddiv_out hnn (leap_ok _).1 (leap_ok _).2 | exact Jvm.FP.Core.dmul_out' hnn (leap_ok _).1 (leap_ok _).2) (by rw [← heq, mX2_scaled_L, if_neg c_5, if_neg c_6, if_neg c_7]) (lv_sub hl [2, 1, 0, 3, 4] rfl)
    exact loop 11 (-a1) a0 (0 : Int32) ls (by unfold LU; decide) (hn0) (by rw [mX2_scaled, if_neg c_1]) (lv_sub hl [2, 1, 0, 3, 4] rfl)

def mX2_floorFromOne_L (a0 : UInt64) : Nat → Int32 → UInt64 → Int32 → Int32
  | 0, _, _, _ => default
  | n + 1, q, v, i => (if i < 0 then q else (if (Op.cmpValue (FP.dcmp v (mX2_leap i)) .l) < 0 then (mX2_floorFromOne_L a0 n q v (i + (-1))) else (mX2_floorFromOne_L a0 n (q + ((1 : Int32) <<< (i &&& 31))) (FP.ddiv v (mX2_leap i)) (i + (-1)))))
def mX2_floorFromOne (a0 : UInt64) : Int32 := (mX2_floorFromOne_L a0 11 (0 : Int32) a0 (9 : Int32))
set_option maxHeartbeats 4000000 in
set_option maxRecDepth 100000 in
theorem ct_X2_floorFromOne (l : Launch) (a0 : UInt64) (hn0 : FP.dIsNaN a0 = false) : Met l yX2_floorFromOne wsX2_floorFromOne { frames := 1, cells := 0, slots := 0, locals := 20 } (fun v _ => v = ([.double a0] : List Value).toArray) (k2_QcV (.int (mX2_floorFromOne a0))) 0 0 (fun _ => False) := by
  refine Met.ofW (cc := cX2_floorFromOne) (maxL := 6) (ret := (some .int)) (by decide) rfl ?_
  intro p e s m args below meth c s₁ B hml hv
  subst hv
  have hx := B.exec
  have hb := B.bytes
  have hr := B.returns
  have hts := atoms_spec (ws := wsX2_floorFromOne) B.pre
  have hown : s.vm.findClass RX2 = some m.cls := findClass_of_methodNamed B.named
  have hlocks := B.notSynchronized
  have hl := lv_entry ([.double a0]) (n := 6) (Nat.le_of_ble_eq_true rfl)
  rw [lg_entry_eq]
  generalize (lg_sl ([.double a0]) ++ List.replicate (6 - (lg_sl ([.double a0])).length) Slot.unset).toArray = ls at hl ⊢
  have hl : lv_has ls 6 [(0, .double a0)] := hl
  refine lv_iconst (v := (0 : Int32)) hx hb dX2_floorFromOne_0 (by decide) ?_
  refine lv_istore_n (lv' := [(2, .int (0 : Int32)), (0, .double a0)]) hx hb dX2_floorFromOne_1 rfl hl (by decide) rfl (fun ls hl => ?_)
  refine lv_dload_n hx hb dX2_floorFromOne_2 rfl (lv_at hl 1 rfl) ?_
  refine lv_dstore_n (lv' := [(3, .double a0), (2, .int (0 : Int32)), (0, .double a0)]) hx hb dX2_floorFromOne_3 rfl hl (by decide) rfl (fun ls hl => ?_)
  refine lv_bipush (v := (9 : Int32)) hx hb dX2_floorFromOne_4 (by decide) ?_
  refine lv_istore (lv' := [(5, .int (9 : Int32)), (3, .double a0), (2, .int (0 : Int32)), (0, .double a0)]) hx hb dX2_floorFromOne_6 hl (by decide) rfl (fun ls hl => ?_)
  have loop : ∀ (n : Nat) (q : Int32) (v : UInt64) (i : Int32) (ls : Array Slot), LD 9 n i → (FP.dIsNaN v = false) → mX2_floorFromOne_L a0 n q v i = mX2_floorFromOne a0 → lv_has ls 6 [(2, .int q), (3, .double v), (5, .int i), (0, .double a0)] → W p l e (headSpec wsX2_floorFromOne { frames := 1, cells := 0, slots := 0, locals := 20 }).room s m ([.double a0] : List Value).toArray below meth c s.heap [] 0 0 (MQ below (k2_QcV (.int (mX2_floorFromOne a0))) ([.double a0] : List Value).toArray s 0 0 (fun _ => False)) (F0 m 8 ls []) := by
    intro n
    induction n with
    | zero => intro q v i ls hm; exact absurd hm (fun h => h.z)
    | succ n ih =>
      intro q v i ls hm hnn heq hl
      refine lv_iload hx hb dX2_floorFromOne_8 (lv_at hl 2 rfl) ?_
      refine lv_if_lt (tgt := 44) hx hb dX2_floorFromOne_10 (by decide) (fun c_1 => ?_) (fun c_1 => ?_)
      · refine lv_iload_n hx hb dX2_floorFromOne_44 rfl (lv_at hl 0 rfl) ?_
        exact W.iret (v := q) hx hb hr (fun t ht _ => ⟨by rw [← heq, mX2_floorFromOne_L, if_pos c_1], ht⟩) (fun _ h => by cases h) dX2_floorFromOne_45
      · refine lv_dload_n hx hb dX2_floorFromOne_13 rfl (lv_at hl 1 rfl) ?_
        refine lv_iload hx hb dX2_floorFromOne_14 (lv_at hl 2 rfl) ?_
        refine hc_S (As := [.int i]) (rest := [.double v]) ⟨hx, hb, hml, hown, hts⟩ (ct_X2_leap l i) (va_cwS 1 hts gX2_floorFromOne_X2_leap rfl rfl rfl (by decide +kernel) ⟨Nat.le_of_ble_eq_true rfl, Nat.le_of_ble_eq_true rfl⟩) rfl hl.1 rfl (Nat.le_of_ble_eq_true rfl) dX2_floorFromOne_16 ⟨Nat.le_of_ble_eq_true rfl, Nat.le_of_ble_eq_true rfl⟩ ?_
        refine lv_dcmp hx hb dX2_floorFromOne_19 ?_
        refine lv_if_lt (tgt := 38) hx hb dX2_floorFromOne_20 (by decide) (fun c_2 => ?_) (fun c_2 => ?_)
        · refine lv_iinc (v := (i + (-1))) (lv' := [(5, .int (i + (-1))), (2, .int q), (3, .double v), (0, .double a0)]) hx hb dX2_floorFromOne_38 hl (k := 2) rfl rfl (by decide) rfl (fun ls hl => ?_)
          refine lv_goto (tgt := 8) hx hb dX2_floorFromOne_41 (by decide) ?_
          exact ih q v (i + (-1)) ls (LD.down hm (by assumption)) (by first | exact hnn | exact Jvm.FP.Core.ddiv_out hnn (leap_ok _).1 (leap_ok _).2 | exact Jvm.FP.Core.dmul_out' hnn (leap_ok _).1 (leap_ok _).2) (by rw [← heq, mX2_floorFromOne_L, if_neg c_1, if_pos c_2]) (lv_sub hl [1, 2, 0, 3] rfl)
        · refine lv_dload_n hx hb dX2_floorFromOne_23 rfl (lv_at hl 1 rfl) ?_
          refine lv_iload hx hb dX2_floorFromOne_24 (lv_at hl 2 rfl) ?_
          refine hc_S (As := [.int i]) (rest := [.double v]) ⟨hx, hb, hml, hown, hts⟩ (ct_X2_leap l i) (va_cwS 1 hts gX2_floorFromOne_X2_leap rfl rfl rfl (by decide +kernel) ⟨Nat.le_of_ble_eq_true rfl, Nat.le_of_ble_eq_true rfl⟩) rfl hl.1 rfl (Nat.le_of_ble_eq_true rfl) dX2_floorFromOne_26 ⟨Nat.le_of_ble_eq_true rfl, Nat.le_of_ble_eq_true rfl⟩ ?_
          refine lv_ddiv hx hb dX2_floorFromOne_29 (nn64 (Jvm.FP.Core.ddiv_out hnn (leap_ok _).1 (leap_ok _).2)) ?_
          refine lv_dstore_n (lv' := [(3, .double (FP.ddiv v (mX2_leap i))), (2, .int q), (5, .int i), (0, .double a0)]) hx hb dX2_floorFromOne_30 rfl hl (by decide) rfl (fun ls hl => ?_)
          refine lv_iload_n hx hb dX2_floorFromOne_31 rfl (lv_at hl 1 rfl) ?_
          refine lv_iconst (v := (1 : Int32)) hx hb dX2_floorFromOne_32 (by decide) ?_
          refine lv_iload hx hb dX2_floorFromOne_33 (lv_at hl 2 rfl) ?_
          refine lv_ishl hx hb dX2_floorFromOne_35 ?_
          refine lv_iadd hx hb dX2_floorFromOne_36 ?_
          refine lv_istore_n (lv' := [(2, .int (q + ((1 : Int32) <<< (i &&& 31)))), (3, .double (FP.ddiv v (mX2_leap i))), (5, .int i), (0, .double a0)]) hx hb dX2_floorFromOne_37 rfl hl (by decide) rfl (fun ls hl => ?_)
          refine lv_iinc (v := (i + (-1))) (lv' := [(5, .int (i + (-1))), (2, .int (q + ((1 : Int32) <<< (i &&& 31)))), (3, .double (FP.ddiv v (mX2_leap i))), (0, .double a0)]) hx hb dX2_floorFromOne_38 hl (k := 2) rfl rfl (by decide) rfl (fun ls hl => ?_)
          refine lv_goto (tgt := 8) hx hb dX2_floorFromOne_41 (by decide) ?_
          exact ih (q + ((1 : Int32) <<< (i &&& 31))) (FP.ddiv v (mX2_leap i)) (i + (-1)) ls (LD.down hm (by assumption)) (by first | exact hnn | exact Jvm.FP.Core.ddiv_out hnn (leap_ok _).1 (leap_ok _).2 | exact Jvm.FP.Core.dmul_out' hnn (leap_ok _).1 (leap_ok _).2) (by rw [← heq, mX2_floorFromOne_L, if_neg c_1, if_neg c_2]) (lv_sub hl [1, 2, 0, 3] rfl)
  exact loop 11 (0 : Int32) a0 (9 : Int32) ls (by unfold LD; decide) (hn0) (by rw [mX2_floorFromOne]) (lv_sub hl [2, 1, 0, 3] rfl)

def mX2_floorBelowOne_L (a0 : UInt64) (a1 : Int32) : Nat → Int32 → UInt64 → Int32 → Int32
  | 0, _, _, _ => default
  | n + 1, q, v, i => (if i < 0 then q else (if (q - ((1 : Int32) <<< (i &&& 31))) < a1 then (mX2_floorBelowOne_L a0 a1 n q v (i + (-1))) else (if 0 ≤ (Op.cmpValue (FP.dcmp (FP.dmul v (mX2_leap i)) (4611686018427387904 : UInt64)) .g) then (mX2_floorBelowOne_L a0 a1 n q v (i + (-1))) else (mX2_floorBelowOne_L a0 a1 n (q - ((1 : Int32) <<< (i &&& 31))) (FP.dmul v (mX2_leap i)) (i + (-1))))))
def mX2_floorBelowOne (a0 : UInt64) (a1 : Int32) : Int32 := (mX2_floorBelowOne_L a0 a1 11 (0 : Int32) a0 (9 : Int32))
set_option maxHeartbeats 4000000 in
set_option maxRecDepth 100000 in
theorem ct_X2_floorBelowOne (l : Launch) (a0 : UInt64) (a1 : Int32) (hn0 : FP.dIsNaN a0 = false) : Met l yX2_floorBelowOne wsX2_floorBelowOne { frames := 1, cells := 0, slots := 0, locals := 20 } (fun v _ => v = ([.double a0, .int a1] : List Value).toArray) (k2_QcV (.int (mX2_floorBelowOne a0 a1))) 0 0 (fun _ => False) := by
  refine Met.ofW (cc := cX2_floorBelowOne) (maxL := 7) (ret := (some .int)) (by decide) rfl ?_
  intro p e s m args below meth c s₁ B hml hv
  subst hv
  have hx := B.exec
  have hb := B.bytes
  have hr := B.returns
  have hts := atoms_spec (ws := wsX2_floorBelowOne) B.pre
  have hown : s.vm.findClass RX2 = some m.cls := findClass_of_methodNamed B.named
  have hlocks := B.notSynchronized
  have hl := lv_entry ([.double a0, .int a1]) (n := 7) (Nat.le_of_ble_eq_true rfl)
  rw [lg_entry_eq]
  generalize (lg_sl ([.double a0, .int a1]) ++ List.replicate (7 - (lg_sl ([.double a0, .int a1])).length) Slot.unset).toArray = ls at hl ⊢
  have hl : lv_has ls 7 [(0, .double a0), (2, .int a1)] := hl
  refine lv_iconst (v := (0 : Int32)) hx hb dX2_floorBelowOne_0 (by decide) ?_
  refine lv_istore_n (lv' := [(3, .int (0 : Int32)), (0, .double a0), (2, .int a1)]) hx hb dX2_floorBelowOne_1 rfl hl (by decide) rfl (fun ls hl => ?_)
  refine lv_dload_n hx hb dX2_floorBelowOne_2 rfl (lv_at hl 1 rfl) ?_
  refine lv_dstore (lv' := [(4, .double a0), (3, .int (0 : Int32)), (0, .double a0), (2, .int a1)]) hx hb dX2_floorBelowOne_3 hl (by decide) rfl (fun ls hl => ?_)
  refine lv_bipush (v := (9 : Int32)) hx hb dX2_floorBelowOne_5 (by decide) ?_
  refine lv_istore (lv' := [(6, .int (9 : Int32)), (4, .double a0), (3, .int (0 : Int32)), (0, .double a0), (2, .int a1)]) hx hb dX2_floorBelowOne_7 hl (by decide) rfl (fun ls hl => ?_)
  have loop : ∀ (n : Nat) (q : Int32) (v : UInt64) (i : Int32) (ls : Array Slot), LD 9 n i → (FP.dIsNaN v = false) → mX2_floorBelowOne_L a0 a1 n q v i = mX2_floorBelowOne a0 a1 → lv_has ls 7 [(3, .int q), (4, .double v), (6, .int i), (0, .double a0), (2, .int a1)] → W p l e (headSpec wsX2_floorBelowOne { frames := 1, cells := 0, slots := 0, locals := 20 }).room s m ([.double a0, .int a1] : List Value).toArray below meth c s.heap [] 0 0 (MQ below (k2_QcV (.int (mX2_floorBelowOne a0 a1))) ([.double a0, .int a1] : List Value).toArray s 0 0 (fun _ => False)) (F0 m 9 ls []) := by
    intro n
    induction n with
    | zero => intro q v i ls hm; exact absurd hm (fun h => h.z)
    | succ n ih =>
      intro q v i ls hm hnn heq hl
      refine lv_iload hx hb dX2_floorBelowOne_9 (lv_at hl 2 rfl) ?_
      refine lv_if_lt (tgt := 62) hx hb dX2_floorBelowOne_11 (by decide) (fun c_1 => ?_) (fun c_1 => ?_)
      · refine lv_iload_n hx hb dX2_floorBelowOne_62 rfl (lv_at hl 0 rfl) ?_
        exact W.iret (v := q) hx hb hr (fun t ht _ => ⟨by rw [← heq, mX2_floorBelowOne_L, if_pos c_1], ht⟩) (fun _ h => by cases h) dX2_floorBelowOne_63
      · refine lv_iload_n hx hb dX2_floorBelowOne_14 rfl (lv_at hl 0 rfl) ?_
        refine lv_iconst (v := (1 : Int32)) hx hb dX2_floorBelowOne_15 (by decide) ?_
        refine lv_iload hx hb dX2_floorBelowOne_16 (lv_at hl 2 rfl) ?_
        refine lv_ishl hx hb dX2_floorBelowOne_18 ?_
        refine lv_isub hx hb dX2_floorBelowOne_19 ?_
        refine lv_iload_n hx hb dX2_floorBelowOne_20 rfl (lv_at hl 4 rfl) ?_
        refine lv_icmp_lt (tgt := 56) hx hb dX2_floorBelowOne_21 (by decide) (fun c_2 => ?_) (fun c_2 => ?_)
        · refine lv_iinc (v := (i + (-1))) (lv' := [(6, .int (i + (-1))), (3, .int q), (4, .double v), (0, .double a0), (2, .int a1)]) hx hb dX2_floorBelowOne_56 hl (k := 2) rfl rfl (by decide) rfl (fun ls hl => ?_)
          refine lv_goto (tgt := 9) hx hb dX2_floorBelowOne_59 (by decide) ?_
          exact ih q v (i + (-1)) ls (LD.down hm (by assumption)) (by first | exact hnn | exact Jvm.FP.Core.ddiv_out hnn (leap_ok _).1 (leap_ok _).2 | exact Jvm.FP.Core.dmul_out' hnn (leap_ok _).1 (leap_ok _).2) (by rw [← heq, mX2_floorBelowOne_L, if_neg c_1, if_pos c_2]) (lv_sub hl [1, 2, 0, 3, 4] rfl)
        · refine lv_dload hx hb dX2_floorBelowOne_24 (lv_at hl 1 rfl) ?_
          refine lv_iload hx hb dX2_floorBelowOne_26 (lv_at hl 2 rfl) ?_
          refine hc_S (As := [.int i]) (rest := [.double v]) ⟨hx, hb, hml, hown, hts⟩ (ct_X2_leap l i) (va_cwS 1 hts gX2_floorBelowOne_X2_leap rfl rfl rfl (by decide +kernel) ⟨Nat.le_of_ble_eq_true rfl, Nat.le_of_ble_eq_true rfl⟩) rfl hl.1 rfl (Nat.le_of_ble_eq_true rfl) dX2_floorBelowOne_28 ⟨Nat.le_of_ble_eq_true rfl, Nat.le_of_ble_eq_true rfl⟩ ?_
          refine lv_dmul hx hb dX2_floorBelowOne_31 (nn64 (Jvm.FP.Core.dmul_out' hnn (leap_ok _).1 (leap_ok _).2)) ?_
          refine lv_ldc2d (v := (4611686018427387904 : UInt64)) hx hb hown (hts (.constantDouble RX2 7 (4611686018427387904)) (by decide +kernel)) dX2_floorBelowOne_32 ?_
          refine lv_dcmp hx hb dX2_floorBelowOne_35 ?_
          refine lv_if_ge (tgt := 56) hx hb dX2_floorBelowOne_36 (by decide) (fun c_3 => ?_) (fun c_3 => ?_)
          · refine lv_iinc (v := (i + (-1))) (lv' := [(6, .int (i + (-1))), (3, .int q), (4, .double v), (0, .double a0), (2, .int a1)]) hx hb dX2_floorBelowOne_56 hl (k := 2) rfl rfl (by decide) rfl (fun ls hl => ?_)
            refine lv_goto (tgt := 9) hx hb dX2_floorBelowOne_59 (by decide) ?_
            exact ih q v (i + (-1)) ls (LD.down hm (by assumption)) (by first | exact hnn | exact Jvm.FP.Core.ddiv_out hnn (leap_ok _).1 (leap_ok _).2 | exact Jvm.FP.Core.dmul_out' hnn (leap_ok _).1 (leap_ok _).2) (by rw [← heq, mX2_floorBelowOne_L, if_neg c_1, if_neg c_2, if_pos c_3]) (lv_sub hl [1, 2, 0, 3, 4] rfl)
          · refine lv_dload hx hb dX2_floorBelowOne_39 (lv_at hl 1 rfl) ?_
            refine lv_iload hx hb dX2_floorBelowOne_41 (lv_at hl 2 rfl) ?_
            refine hc_S (As := [.int i]) (rest := [.double v]) ⟨hx, hb, hml, hown, hts⟩ (ct_X2_leap l i) (va_cwS 1 hts gX2_floorBelowOne_X2_leap rfl rfl rfl (by decide +kernel) ⟨Nat.le_of_ble_eq_true rfl, Nat.le_of_ble_eq_true rfl⟩) rfl hl.1 rfl (Nat.le_of_ble_eq_true rfl) dX2_floorBelowOne_43 ⟨Nat.le_of_ble_eq_true rfl, Nat.le_of_ble_eq_true rfl⟩ ?_
            refine lv_dmul hx hb dX2_floorBelowOne_46 (nn64 (Jvm.FP.Core.dmul_out' hnn (leap_ok _).1 (leap_ok _).2)) ?_
            refine lv_dstore (lv' := [(4, .double (FP.dmul v (mX2_leap i))), (3, .int q), (6, .int i), (0, .double a0), (2, .int a1)]) hx hb dX2_floorBelowOne_47 hl (by decide) rfl (fun ls hl => ?_)
            refine lv_iload_n hx hb dX2_floorBelowOne_49 rfl (lv_at hl 1 rfl) ?_
            refine lv_iconst (v := (1 : Int32)) hx hb dX2_floorBelowOne_50 (by decide) ?_
            refine lv_iload hx hb dX2_floorBelowOne_51 (lv_at hl 2 rfl) ?_
            refine lv_ishl hx hb dX2_floorBelowOne_53 ?_
            refine lv_isub hx hb dX2_floorBelowOne_54 ?_
            refine lv_istore_n (lv' := [(3, .int (q - ((1 : Int32) <<< (i &&& 31)))), (4, .double (FP.dmul v (mX2_leap i))), (6, .int i), (0, .double a0), (2, .int a1)]) hx hb dX2_floorBelowOne_55 rfl hl (by decide) rfl (fun ls hl => ?_)
            refine lv_iinc (v := (i + (-1))) (lv' := [(6, .int (i + (-1))), (3, .int (q - ((1 : Int32) <<< (i &&& 31)))), (4, .double (FP.dmul v (mX2_leap i))), (0, .double a0), (2, .int a1)]) hx hb dX2_floorBelowOne_56 hl (k := 2) rfl rfl (by decide) rfl (fun ls hl => ?_)
            refine lv_goto (tgt := 9) hx hb dX2_floorBelowOne_59 (by decide) ?_
            exact ih (q - ((1 : Int32) <<< (i &&& 31))) (FP.dmul v (mX2_leap i)) (i + (-1)) ls (LD.down hm (by assumption)) (by first | exact hnn | exact Jvm.FP.Core.ddiv_out hnn (leap_ok _).1 (leap_ok _).2 | exact Jvm.FP.Core.dmul_out' hnn (leap_ok _).1 (leap_ok _).2) (by rw [← heq, mX2_floorBelowOne_L, if_neg c_1, if_neg c_2, if_neg c_3]) (lv_sub hl [1, 2, 0, 3, 4] rfl)
  exact loop 11 (0 : Int32) a0 (9 : Int32) ls (by unfold LD; decide) (hn0) (by rw [mX2_floorBelowOne]) (lv_sub hl [2, 1, 0, 3, 4] rfl)
