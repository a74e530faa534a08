def mX7_whole_C198 (a0 : Int64) (a1 : Int32) (w : Int32) (w3 : Int32) : Int64 := (if w3 = 0 then ((a0 &&& (-9223372036854775808 : Int64)) ||| ((mX7_size a0) - ((mX7_size a0) &&& (((1 : Int64) <<< (((52 : Int32) - ((((mX7_size a0) >>> ((52 : Int32).toInt64 &&& 63)).toInt32) - (1023 : Int32))).toInt64 &&& 63)) - (1 : Int64))))) else ((a0 &&& (-9223372036854775808 : Int64)) ||| (((mX7_size a0) - ((mX7_size a0) &&& (((1 : Int64) <<< (((52 : Int32) - ((((mX7_size a0) >>> ((52 : Int32).toInt64 &&& 63)).toInt32) - (1023 : Int32))).toInt64 &&& 63)) - (1 : Int64)))) + ((1 : Int64) <<< (((52 : Int32) - ((((mX7_size a0) >>> ((52 : Int32).toInt64 &&& 63)).toInt32) - (1023 : Int32))).toInt64 &&& 63)))))
def mX7_whole_C104 (a0 : Int64) (a1 : Int32) (w : Int32) (w2 : Int32) : Int64 := (if w2 = 0 then ((a0 &&& (-9223372036854775808 : Int64)) ||| (0 : Int64)) else ((a0 &&& (-9223372036854775808 : Int64)) ||| (4607182418800017408 : Int64)))
def mX7_whole_C79 (a0 : Int64) (a1 : Int32) (w : Int32) : Int64 := (if 0 ≤ ((((mX7_size a0) >>> ((52 : Int32).toInt64 &&& 63)).toInt32) - (1023 : Int32)) then (if (lg_cmp ((mX7_size a0) &&& (((1 : Int64) <<< (((52 : Int32) - ((((mX7_size a0) >>> ((52 : Int32).toInt64 &&& 63)).toInt32) - (1023 : Int32))).toInt64 &&& 63)) - (1 : Int64))) (0 : Int64)) = 0 then a0 else (if a1 = (2 : Int32) then (if 0 < (lg_cmp ((mX7_size a0) &&& (((1 : Int64) <<< (((52 : Int32) - ((((mX7_size a0) >>> ((52 : Int32).toInt64 &&& 63)).toInt32) - (1023 : Int32))).toInt64 &&& 63)) - (1 : Int64))) (((1 : Int64) <<< (((52 : Int32) - ((((mX7_size a0) >>> ((52 : Int32).toInt64 &&& 63)).toInt32) - (1023 : Int32))).toInt64 &&& 63)) / (2 : Int64))) then (mX7_whole_C198 a0 a1 w (1 : Int32)) else (if (lg_cmp ((mX7_size a0) &&& (((1 : Int64) <<< (((52 : Int32) - ((((mX7_size a0) >>> ((52 : Int32).toInt64 &&& 63)).toInt32) - (1023 : Int32))).toInt64 &&& 63)) - (1 : Int64))) (((1 : Int64) <<< (((52 : Int32) - ((((mX7_size a0) >>> ((52 : Int32).toInt64 &&& 63)).toInt32) - (1023 : Int32))).toInt64 &&& 63)) / (2 : Int64))) = 0 then (if (mX7_isOdd ((mX7_size a0) - ((mX7_size a0) &&& (((1 : Int64) <<< (((52 : Int32) - ((((mX7_size a0) >>> ((52 : Int32).toInt64 &&& 63)).toInt32) - (1023 : Int32))).toInt64 &&& 63)) - (1 : Int64)))) ((((mX7_size a0) >>> ((52 : Int32).toInt64 &&& 63)).toInt32) - (1023 : Int32))) = 0 then (mX7_whole_C198 a0 a1 w (0 : Int32)) else (mX7_whole_C198 a0 a1 w (1 : Int32))) else (mX7_whole_C198 a0 a1 w (0 : Int32)))) else (mX7_whole_C198 a0 a1 w w))) else (if a1 = (2 : Int32) then (if (lg_cmp (mX7_size a0) (4602678819172646912 : Int64)) ≤ 0 then (mX7_whole_C104 a0 a1 w (0 : Int32)) else (mX7_whole_C104 a0 a1 w (1 : Int32))) else (mX7_whole_C104 a0 a1 w w)))
def mX7_whole (a0 : Int64) (a1 : Int32) : Int64 := (if (52 : Int32) ≤ ((((mX7_size a0) >>> ((52 : Int32).toInt64 &&& 63)).toInt32) - (1023 : Int32)) then a0 else (if (lg_cmp (mX7_size a0) (0 : Int64)) = 0 then a0 else (if a1 = 0 then (if (lg_cmp (a0 &&& (-9223372036854775808 : Int64)) (0 : Int64)) = 0 then (mX7_whole_C79 a0 a1 (0 : Int32)) else (mX7_whole_C79 a0 a1 (1 : Int32))) else (if a1 = (1 : Int32) then (if (lg_cmp (a0 &&& (-9223372036854775808 : Int64)) (0 : Int64)) = 0 then (mX7_whole_C79 a0 a1 (1 : Int32)) else (mX7_whole_C79 a0 a1 (0 : Int32))) else (mX7_whole_C79 a0 a1 (0 : Int32))))))
set_option maxHeartbeats 4000000 in
set_option maxRecDepth 100000 in
theorem ct_X7_whole (l : Launch) (a0 : Int64) (a1 : Int32) : Met l yX7_whole wsX7_whole { frames := 1, cells := 0, slots := 0, locals := 22 } (fun v _ => v = ([.long a0, .int a1] : List Value).toArray) (k2_QcV (.long (mX7_whole a0 a1))) 0 0 (fun _ => False) := by
  refine Met.ofW (cc := cX7_whole) (maxL := 15) (ret := (some .long)) (by decide) rfl ?_
  intro p e s m args below meth c s₁ B hml hv
  subst hv
  have hx := B.exec
  have hb := B.bytes
  have hr := B.returns
  have hts := atoms_spec (ws := wsX7_whole) B.pre
  have hown : s.vm.findClass RX7 = some m.cls := findClass_of_methodNamed B.named
  have hlocks := B.notSynchronized
  have hl := lv_entry ([.long a0, .int a1]) (n := 15) (Nat.le_of_ble_eq_true rfl)
  rw [lg_entry_eq]
  generalize (lg_sl ([.long a0, .int a1]) ++ List.replicate (15 - (lg_sl ([.long a0, .int a1])).length) Slot.unset).toArray = ls at hl ⊢
  have hl : lv_has ls 15 [(0, .long a0), (2, .int a1)] := hl
  refine lv_lload_n hx hb dX7_whole_0 rfl (lv_at hl 0 rfl) ?_
  refine hc_S (As := [.long a0]) (rest := []) ⟨hx, hb, hml, hown, hts⟩ (ct_X7_size l a0) (va_cwS 1 hts gX7_whole_X7_size rfl rfl rfl (by decide +kernel) ⟨Nat.le_of_ble_eq_true rfl, Nat.le_of_ble_eq_true rfl⟩) rfl hl.1 rfl (Nat.le_of_ble_eq_true rfl) dX7_whole_1 ⟨Nat.le_of_ble_eq_true rfl, Nat.le_of_ble_eq_true rfl⟩ ?_
  refine lv_bipush (v := (52 : Int32)) hx hb dX7_whole_4 (by decide) ?_
  refine lv_lshr hx hb dX7_whole_6 rfl ?_
  refine lv_l2i hx hb dX7_whole_7 rfl ?_
  refine lv_sipush (v := (1023 : Int32)) hx hb dX7_whole_8 (by decide) ?_
  refine lv_isub hx hb dX7_whole_11 ?_
  refine lv_istore_n (lv' := [(3, .int ((((mX7_size a0) >>> ((52 : Int32).toInt64 &&& 63)).toInt32) - (1023 : Int32))), (0, .long a0), (2, .int a1)]) hx hb dX7_whole_12 rfl hl (by decide) rfl (fun ls hl => ?_)
  refine lv_lload_n hx hb dX7_whole_13 rfl (lv_at hl 1 rfl) ?_
  refine lv_ldc2 (v := (-9223372036854775808 : Int64)) hx hb hown (hts (.constantLong RX7 83 (-9223372036854775808)) (by decide +kernel)) dX7_whole_14 ?_
  refine lv_land hx hb dX7_whole_17 ?_
  refine lv_lstore (lv' := [(4, .long (a0 &&& (-9223372036854775808 : Int64))), (3, .int ((((mX7_size a0) >>> ((52 : Int32).toInt64 &&& 63)).toInt32) - (1023 : Int32))), (0, .long a0), (2, .int a1)]) hx hb dX7_whole_18 hl (by decide) rfl (fun ls hl => ?_)
  refine lv_lload_n hx hb dX7_whole_20 rfl (lv_at hl 2 rfl) ?_
  refine hc_S (As := [.long a0]) (rest := []) ⟨hx, hb, hml, hown, hts⟩ (ct_X7_size l a0) (va_cwS 1 hts gX7_whole_X7_size rfl rfl rfl (by decide +kernel) ⟨Nat.le_of_ble_eq_true rfl, Nat.le_of_ble_eq_true rfl⟩) rfl hl.1 rfl (Nat.le_of_ble_eq_true rfl) dX7_whole_21 ⟨Nat.le_of_ble_eq_true rfl, Nat.le_of_ble_eq_true rfl⟩ ?_
  refine lv_lstore (lv' := [(6, .long (mX7_size a0)), (4, .long (a0 &&& (-9223372036854775808 : Int64))), (3, .int ((((mX7_size a0) >>> ((52 : Int32).toInt64 &&& 63)).toInt32) - (1023 : Int32))), (0, .long a0), (2, .int a1)]) hx hb dX7_whole_24 hl (by decide) rfl (fun ls hl => ?_)
  refine lv_iload_n hx hb dX7_whole_26 rfl (lv_at hl 2 rfl) ?_
  refine lv_bipush (v := (52 : Int32)) hx hb dX7_whole_27 (by decide) ?_
  refine lv_icmp_ge (tgt := 39) hx hb dX7_whole_29 (by decide) (fun c_1 => ?_) (fun c_1 => ?_)
  · refine lv_lload_n hx hb dX7_whole_39 rfl (lv_at hl 3 rfl) ?_
    exact W.lret (v := a0) hx hb hr (fun t ht _ => ⟨by rw [mX7_whole, if_pos c_1], ht⟩) (fun _ h => by cases h) dX7_whole_40
  · refine lv_lload hx hb dX7_whole_32 (lv_at hl 0 rfl) ?_
    refine lv_lconst (v := (0 : Int64)) hx hb dX7_whole_34 (by decide) ?_
    refine W.lcmp hx hb dX7_whole_35 ?_
    refine lv_if_ne (tgt := 41) hx hb dX7_whole_36 (by decide) (fun c_2 => ?_) (fun c_2 => ?_)
    · have cut79 : ∀ (w : Int32) (ls : Array Slot), mX7_whole_C79 a0 a1 w = mX7_whole a0 a1 → lv_has ls 15 [(8, .int w), (6, .long (mX7_size a0)), (4, .long (a0 &&& (-9223372036854775808 : Int64))), (3, .int ((((mX7_size a0) >>> ((52 : Int32).toInt64 &&& 63)).toInt32) - (1023 : Int32))), (0, .long a0), (2, .int a1)] → W p l e (headSpec wsX7_whole { frames := 1, cells := 0, slots := 0, locals := 22 }).room s m ([.long a0, .int a1] : List Value).toArray below meth c s.heap [] 0 0 (MQ below (k2_QcV (.long (mX7_whole a0 a1))) ([.long a0, .int a1] : List Value).toArray s 0 0 (fun _ => False)) (F0 m 79 ls []) := by
        intro w ls heq79 hl
        refine lv_iload_n hx hb dX7_whole_79 rfl (lv_at hl 3 rfl) ?_
        refine lv_if_ge (tgt := 120) hx hb dX7_whole_80 (by decide) (fun c_3 => ?_) (fun c_3 => ?_)
        · refine lv_lconst (v := (1 : Int64)) hx hb dX7_whole_120 (by decide) ?_
          refine lv_bipush (v := (52 : Int32)) hx hb dX7_whole_121 (by decide) ?_
          refine lv_iload_n hx hb dX7_whole_123 rfl (lv_at hl 3 rfl) ?_
          refine lv_isub hx hb dX7_whole_124 ?_
          refine lv_lshl hx hb dX7_whole_125 rfl ?_
          refine lv_lstore (lv' := [(9, .long ((1 : Int64) <<< (((52 : Int32) - ((((mX7_size a0) >>> ((52 : Int32).toInt64 &&& 63)).toInt32) - (1023 : Int32))).toInt64 &&& 63))), (8, .int w), (6, .long (mX7_size a0)), (4, .long (a0 &&& (-9223372036854775808 : Int64))), (3, .int ((((mX7_size a0) >>> ((52 : Int32).toInt64 &&& 63)).toInt32) - (1023 : Int32))), (0, .long a0), (2, .int a1)]) hx hb dX7_whole_126 hl (by decide) rfl (fun ls hl => ?_)
          refine lv_lload hx hb dX7_whole_128 (lv_at hl 2 rfl) ?_
          refine lv_lload hx hb dX7_whole_130 (lv_at hl 0 rfl) ?_
          refine lv_lconst (v := (1 : Int64)) hx hb dX7_whole_132 (by decide) ?_
          refine lv_lsub hx hb dX7_whole_133 ?_
          refine lv_land hx hb dX7_whole_134 ?_
          refine lv_lstore (lv' := [(11, .long ((mX7_size a0) &&& (((1 : Int64) <<< (((52 : Int32) - ((((mX7_size a0) >>> ((52 : Int32).toInt64 &&& 63)).toInt32) - (1023 : Int32))).toInt64 &&& 63)) - (1 : Int64)))), (9, .long ((1 : Int64) <<< (((52 : Int32) - ((((mX7_size a0) >>> ((52 : Int32).toInt64 &&& 63)).toInt32) - (1023 : Int32))).toInt64 &&& 63))), (8, .int w), (6, .long (mX7_size a0)), (4, .long (a0 &&& (-9223372036854775808 : Int64))), (3, .int ((((mX7_size a0) >>> ((52 : Int32).toInt64 &&& 63)).toInt32) - (1023 : Int32))), (0, .long a0), (2, .int a1)]) hx hb dX7_whole_135 hl (by decide) rfl (fun ls hl => ?_)
          refine lv_lload hx hb dX7_whole_137 (lv_at hl 3 rfl) ?_
          refine lv_lload hx hb dX7_whole_139 (lv_at hl 0 rfl) ?_
          refine lv_lsub hx hb dX7_whole_141 ?_
          refine lv_lstore (lv' := [(13, .long ((mX7_size a0) - ((mX7_size a0) &&& (((1 : Int64) <<< (((52 : Int32) - ((((mX7_size a0) >>> ((52 : Int32).toInt64 &&& 63)).toInt32) - (1023 : Int32))).toInt64 &&& 63)) - (1 : Int64))))), (11, .long ((mX7_size a0) &&& (((1 : Int64) <<< (((52 : Int32) - ((((mX7_size a0) >>> ((52 : Int32).toInt64 &&& 63)).toInt32) - (1023 : Int32))).toInt64 &&& 63)) - (1 : Int64)))), (9, .long ((1 : Int64) <<< (((52 : Int32) - ((((mX7_size a0) >>> ((52 : Int32).toInt64 &&& 63)).toInt32) - (1023 : Int32))).toInt64 &&& 63))), (8, .int w), (6, .long (mX7_size a0)), (4, .long (a0 &&& (-9223372036854775808 : Int64))), (3, .int ((((mX7_size a0) >>> ((52 : Int32).toInt64 &&& 63)).toInt32) - (1023 : Int32))), (0, .long a0), (2, .int a1)]) hx hb dX7_whole_142 hl (by decide) rfl (fun ls hl => ?_)
          refine lv_lload hx hb dX7_whole_144 (lv_at hl 1 rfl) ?_
          refine lv_lconst (v := (0 : Int64)) hx hb dX7_whole_146 (by decide) ?_
          refine W.lcmp hx hb dX7_whole_147 ?_
          refine lv_if_ne (tgt := 153) hx hb dX7_whole_148 (by decide) (fun c_4 => ?_) (fun c_4 => ?_)
          · have cut198 : ∀ (w3 : Int32) (ls : Array Slot), mX7_whole_C198 a0 a1 w w3 = mX7_whole a0 a1 → lv_has ls 15 [(8, .int w3), (13, .long ((mX7_size a0) - ((mX7_size a0) &&& (((1 : Int64) <<< (((52 : Int32) - ((((mX7_size a0) >>> ((52 : Int32).toInt64 &&& 63)).toInt32) - (1023 : Int32))).toInt64 &&& 63)) - (1 : Int64))))), (11, .long ((mX7_size a0) &&& (((1 : Int64) <<< (((52 : Int32) - ((((mX7_size a0) >>> ((52 : Int32).toInt64 &&& 63)).toInt32) - (1023 : Int32))).toInt64 &&& 63)) - (1 : Int64)))), (9, .long ((1 : Int64) <<< (((52 : Int32) - ((((mX7_size a0) >>> ((52 : Int32).toInt64 &&& 63)).toInt32) - (1023 : Int32))).toInt64 &&& 63))), (6, .long (mX7_size a0)), (4, .long (a0 &&& (-9223372036854775808 : Int64))), (3, .int ((((mX7_size a0) >>> ((52 : Int32).toInt64 &&& 63)).toInt32) - (1023 : Int32))), (0, .long a0), (2, .int a1)] → W p l e (headSpec wsX7_whole { frames := 1, cells := 0, slots := 0, locals := 22 }).room s m ([.long a0, .int a1] : List Value).toArray below meth c s.heap [] 0 0 (MQ below (k2_QcV (.long (mX7_whole a0 a1))) ([.long a0, .int a1] : List Value).toArray s 0 0 (fun _ => False)) (F0 m 198 ls []) := by
              intro w3 ls heq198 hl
              refine lv_lload hx hb dX7_whole_198 (lv_at hl 5 rfl) ?_
              refine lv_iload hx hb dX7_whole_200 (lv_at hl 0 rfl) ?_
              refine lv_if_eq (tgt := 213) hx hb dX7_whole_202 (by decide) (fun c_5 => ?_) (fun c_5 => ?_)
              · refine lv_lload hx hb dX7_whole_213 (lv_at hl 1 rfl) ?_
                refine lv_lor hx hb dX7_whole_215 ?_
                exact W.lret (v := ((a0 &&& (-9223372036854775808 : Int64)) ||| ((mX7_size a0) - ((mX7_size a0) &&& (((1 : Int64) <<< (((52 : Int32) - ((((mX7_size a0) >>> ((52 : Int32).toInt64 &&& 63)).toInt32) - (1023 : Int32))).toInt64 &&& 63)) - (1 : Int64)))))) hx hb hr (fun t ht _ => ⟨by rw [← heq198, mX7_whole_C198, if_pos c_5], ht⟩) (fun _ h => by cases h) dX7_whole_216
              · refine lv_lload hx hb dX7_whole_205 (lv_at hl 1 rfl) ?_
                refine lv_lload hx hb dX7_whole_207 (lv_at hl 3 rfl) ?_
                refine lv_ladd hx hb dX7_whole_209 ?_
                refine lv_goto (tgt := 215) hx hb dX7_whole_210 (by decide) ?_
                refine lv_lor hx hb dX7_whole_215 ?_
                exact W.lret (v := ((a0 &&& (-9223372036854775808 : Int64)) ||| (((mX7_size a0) - ((mX7_size a0) &&& (((1 : Int64) <<< (((52 : Int32) - ((((mX7_size a0) >>> ((52 : Int32).toInt64 &&& 63)).toInt32) - (1023 : Int32))).toInt64 &&& 63)) - (1 : Int64)))) + ((1 : Int64) <<< (((52 : Int32) - ((((mX7_size a0) >>> ((52 : Int32).toInt64 &&& 63)).toInt32) - (1023 : Int32))).toInt64 &&& 63))))) hx hb hr (fun t ht _ => ⟨by rw [← heq198, mX7_whole_C198, if_neg c_5], ht⟩) (fun _ h => by cases h) dX7_whole_216
            refine lv_iload_n hx hb dX7_whole_153 rfl (lv_at hl 8 rfl) ?_
            refine lv_iconst (v := (2 : Int32)) hx hb dX7_whole_154 (by decide) ?_
            refine lv_icmp_ne (tgt := 198) hx hb dX7_whole_155 (by decide) (fun c_6 => ?_) (fun c_6 => ?_)
            · exact cut198 w ls (by rw [← heq79, mX7_whole_C79, if_pos c_3, if_neg c_4, if_neg c_6]) (lv_sub hl [3, 0, 1, 2, 4, 5, 6, 7, 8] rfl)
            · refine lv_lload hx hb dX7_whole_158 (lv_at hl 1 rfl) ?_
              refine lv_lload hx hb dX7_whole_160 (lv_at hl 2 rfl) ?_
              refine lv_ldc2 (v := (2 : Int64)) hx hb hown (hts (.constantLong RX7 87 (2)) (by decide +kernel)) dX7_whole_162 ?_
              refine lv_ldiv hx hb dX7_whole_165 (by decide) ?_
              refine W.lcmp hx hb dX7_whole_166 ?_
              refine lv_if_gt (tgt := 191) hx hb dX7_whole_167 (by decide) (fun c_7 => ?_) (fun c_7 => ?_)
              · refine lv_iconst (v := (1 : Int32)) hx hb dX7_whole_191 (by decide) ?_
                refine lv_goto (tgt := 196) hx hb dX7_whole_192 (by decide) ?_
                refine lv_istore (lv' := [(8, .int (1 : Int32)), (13, .long ((mX7_size a0) - ((mX7_size a0) &&& (((1 : Int64) <<< (((52 : Int32) - ((((mX7_size a0) >>> ((52 : Int32).toInt64 &&& 63)).toInt32) - (1023 : Int32))).toInt64 &&& 63)) - (1 : Int64))))), (11, .long ((mX7_size a0) &&& (((1 : Int64) <<< (((52 : Int32) - ((((mX7_size a0) >>> ((52 : Int32).toInt64 &&& 63)).toInt32) - (1023 : Int32))).toInt64 &&& 63)) - (1 : Int64)))), (9, .long ((1 : Int64) <<< (((52 : Int32) - ((((mX7_size a0) >>> ((52 : Int32).toInt64 &&& 63)).toInt32) - (1023 : Int32))).toInt64 &&& 63))), (6, .long (mX7_size a0)), (4, .long (a0 &&& (-9223372036854775808 : Int64))), (3, .int ((((mX7_size a0) >>> ((52 : Int32).toInt64 &&& 63)).toInt32) - (1023 : Int32))), (0, .long a0), (2, .int a1)]) hx hb dX7_whole_196 hl (by decide) rfl (fun ls hl => ?_)
                exact cut198 (1 : Int32) ls (by rw [← heq79, mX7_whole_C79, if_pos c_3, if_neg c_4, if_pos c_6, if_pos c_7]) (lv_sub hl [0, 1, 2, 3, 4, 5, 6, 7, 8] rfl)
              · refine lv_lload hx hb dX7_whole_170 (lv_at hl 1 rfl) ?_
                refine lv_lload hx hb dX7_whole_172 (lv_at hl 2 rfl) ?_
                refine lv_ldc2 (v := (2 : Int64)) hx hb hown (hts (.constantLong RX7 87 (2)) (by decide +kernel)) dX7_whole_174 ?_
                refine lv_ldiv hx hb dX7_whole_177 (by decide) ?_
                refine W.lcmp hx hb dX7_whole_178 ?_
                refine lv_if_ne (tgt := 195) hx hb dX7_whole_179 (by decide) (fun c_8 => ?_) (fun c_8 => ?_)
                · refine lv_iconst (v := (0 : Int32)) hx hb dX7_whole_195 (by decide) ?_
                  refine lv_istore (lv' := [(8, .int (0 : Int32)), (13, .long ((mX7_size a0) - ((mX7_size a0) &&& (((1 : Int64) <<< (((52 : Int32) - ((((mX7_size a0) >>> ((52 : Int32).toInt64 &&& 63)).toInt32) - (1023 : Int32))).toInt64 &&& 63)) - (1 : Int64))))), (11, .long ((mX7_size a0) &&& (((1 : Int64) <<< (((52 : Int32) - ((((mX7_size a0) >>> ((52 : Int32).toInt64 &&& 63)).toInt32) - (1023 : Int32))).toInt64 &&& 63)) - (1 : Int64)))), (9, .long ((1 : Int64) <<< (((52 : Int32) - ((((mX7_size a0) >>> ((52 : Int32).toInt64 &&& 63)).toInt32) - (1023 : Int32))).toInt64 &&& 63))), (6, .long (mX7_size a0)), (4, .long (a0 &&& (-9223372036854775808 : Int64))), (3, .int ((((mX7_size a0) >>> ((52 : Int32).toInt64 &&& 63)).toInt32) - (1023 : Int32))), (0, .long a0), (2, .int a1)]) hx hb dX7_whole_196 hl (by decide) rfl (fun ls hl => ?_)
                  exact cut198 (0 : Int32) ls (by rw [← heq79, mX7_whole_C79, if_pos c_3, if_neg c_4, if_pos c_6, if_neg c_7, if_neg c_8]) (lv_sub hl [0, 1, 2, 3, 4, 5, 6, 7, 8] rfl)
                · refine lv_lload hx hb dX7_whole_182 (lv_at hl 0 rfl) ?_
                  refine lv_iload_n hx hb dX7_whole_184 rfl (lv_at hl 6 rfl) ?_
                  refine hc_S (As := [.long ((mX7_size a0) - ((mX7_size a0) &&& (((1 : Int64) <<< (((52 : Int32) - ((((mX7_size a0) >>> ((52 : Int32).toInt64 &&& 63)).toInt32) - (1023 : Int32))).toInt64 &&& 63)) - (1 : Int64)))), .int ((((mX7_size a0) >>> ((52 : Int32).toInt64 &&& 63)).toInt32) - (1023 : Int32))]) (rest := []) ⟨hx, hb, hml, hown, hts⟩ (ct_X7_isOdd l ((mX7_size a0) - ((mX7_size a0) &&& (((1 : Int64) <<< (((52 : Int32) - ((((mX7_size a0) >>> ((52 : Int32).toInt64 &&& 63)).toInt32) - (1023 : Int32))).toInt64 &&& 63)) - (1 : Int64)))) ((((mX7_size a0) >>> ((52 : Int32).toInt64 &&& 63)).toInt32) - (1023 : Int32))) (va_cwS 2 hts gX7_whole_X7_isOdd rfl rfl rfl (by decide +kernel) ⟨Nat.le_of_ble_eq_true rfl, Nat.le_of_ble_eq_true rfl⟩) rfl hl.1 rfl (Nat.le_of_ble_eq_true rfl) dX7_whole_185 ⟨Nat.le_of_ble_eq_true rfl, Nat.le_of_ble_eq_true rfl⟩ ?_
                  refine lv_if_eq (tgt := 195) hx hb dX7_whole_188 (by decide) (fun c_9 => ?_) (fun c_9 => ?_)
                  · refine lv_iconst (v := (0 : Int32)) hx hb dX7_whole_195 (by decide) ?_
                    refine lv_istore (lv' := [(8, .int (0 : Int32)), (13, .long ((mX7_size a0) - ((mX7_size a0) &&& (((1 : Int64) <<< (((52 : Int32) - ((((mX7_size a0) >>> ((52 : Int32).toInt64 &&& 63)).toInt32) - (1023 : Int32))).toInt64 &&& 63)) - (1 : Int64))))), (11, .long ((mX7_size a0) &&& (((1 : Int64) <<< (((52 : Int32) - ((((mX7_size a0) >>> ((52 : Int32).toInt64 &&& 63)).toInt32) - (1023 : Int32))).toInt64 &&& 63)) - (1 : Int64)))), (9, .long ((1 : Int64) <<< (((52 : Int32) - ((((mX7_size a0) >>> ((52 : Int32).toInt64 &&& 63)).toInt32) - (1023 : Int32))).toInt64 &&& 63))), (6, .long (mX7_size a0)), (4, .long (a0 &&& (-9223372036854775808 : Int64))), (3, .int ((((mX7_size a0) >>> ((52 : Int32).toInt64 &&& 63)).toInt32) - (1023 : Int32))), (0, .long a0), (2, .int a1)]) hx hb dX7_whole_196 hl (by decide) rfl (fun ls hl => ?_)
                    exact cut198 (0 : Int32) ls (by rw [← heq79, mX7_whole_C79, if_pos c_3, if_neg c_4, if_pos c_6, if_neg c_7, if_pos c_8, if_pos c_9]) (lv_sub hl [0, 1, 2, 3, 4, 5, 6, 7, 8] rfl)
                  · refine lv_iconst (v := (1 : Int32)) hx hb dX7_whole_191 (by decide) ?_
                    refine lv_goto (tgt := 196) hx hb dX7_whole_192 (by decide) ?_
                    refine lv_istore (lv' := [(8, .int (1 : Int32)), (13, .long ((mX7_size a0) - ((mX7_size a0) &&& (((1 : Int64) <<< (((52 : Int32) - ((((mX7_size a0) >>> ((52 : Int32).toInt64 &&& 63)).toInt32) - (1023 : Int32))).toInt64 &&& 63)) - (1 : Int64))))), (11, .long ((mX7_size a0) &&& (((1 : Int64) <<< (((52 : Int32) - ((((mX7_size a0) >>> ((52 : Int32).toInt64 &&& 63)).toInt32) - (1023 : Int32))).toInt64 &&& 63)) - (1 : Int64)))), (9, .long ((1 : Int64) <<< (((52 : Int32) - ((((mX7_size a0) >>> ((52 : Int32).toInt64 &&& 63)).toInt32) - (1023 : Int32))).toInt64 &&& 63))), (6, .long (mX7_size a0)), (4, .long (a0 &&& (-9223372036854775808 : Int64))), (3, .int ((((mX7_size a0) >>> ((52 : Int32).toInt64 &&& 63)).toInt32) - (1023 : Int32))), (0, .long a0), (2, .int a1)]) hx hb dX7_whole_196 hl (by decide) rfl (fun ls hl => ?_)
                    exact cut198 (1 : Int32) ls (by rw [← heq79, mX7_whole_C79, if_pos c_3, if_neg c_4, if_pos c_6, if_neg c_7, if_pos c_8, if_neg c_9]) (lv_sub hl [0, 1, 2, 3, 4, 5, 6, 7, 8] rfl)
          · refine lv_lload_n hx hb dX7_whole_151 rfl (lv_at hl 7 rfl) ?_
            exact W.lret (v := a0) hx hb hr (fun t ht _ => ⟨by rw [← heq79, mX7_whole_C79, if_pos c_3, if_pos c_4], ht⟩) (fun _ h => by cases h) dX7_whole_152
        · have cut104 : ∀ (w2 : Int32) (ls : Array Slot), mX7_whole_C104 a0 a1 w w2 = mX7_whole a0 a1 → lv_has ls 15 [(8, .int w2), (6, .long (mX7_size a0)), (4, .long (a0 &&& (-9223372036854775808 : Int64))), (3, .int ((((mX7_size a0) >>> ((52 : Int32).toInt64 &&& 63)).toInt32) - (1023 : Int32))), (0, .long a0), (2, .int a1)] → W p l e (headSpec wsX7_whole { frames := 1, cells := 0, slots := 0, locals := 22 }).room s m ([.long a0, .int a1] : List Value).toArray below meth c s.heap [] 0 0 (MQ below (k2_QcV (.long (mX7_whole a0 a1))) ([.long a0, .int a1] : List Value).toArray s 0 0 (fun _ => False)) (F0 m 104 ls []) := by
            intro w2 ls heq104 hl
            refine lv_lload hx hb dX7_whole_104 (lv_at hl 2 rfl) ?_
            refine lv_iload hx hb dX7_whole_106 (lv_at hl 0 rfl) ?_
            refine lv_if_eq (tgt := 117) hx hb dX7_whole_108 (by decide) (fun c_10 => ?_) (fun c_10 => ?_)
            · refine lv_lconst (v := (0 : Int64)) hx hb dX7_whole_117 (by decide) ?_
              refine lv_lor hx hb dX7_whole_118 ?_
              exact W.lret (v := ((a0 &&& (-9223372036854775808 : Int64)) ||| (0 : Int64))) hx hb hr (fun t ht _ => ⟨by rw [← heq104, mX7_whole_C104, if_pos c_10], ht⟩) (fun _ h => by cases h) dX7_whole_119
            · refine lv_ldc2 (v := (4607182418800017408 : Int64)) hx hb hown (hts (.constantLong RX7 28 (4607182418800017408)) (by decide +kernel)) dX7_whole_111 ?_
              refine lv_goto (tgt := 118) hx hb dX7_whole_114 (by decide) ?_
              refine lv_lor hx hb dX7_whole_118 ?_
              exact W.lret (v := ((a0 &&& (-9223372036854775808 : Int64)) ||| (4607182418800017408 : Int64))) hx hb hr (fun t ht _ => ⟨by rw [← heq104, mX7_whole_C104, if_neg c_10], ht⟩) (fun _ h => by cases h) dX7_whole_119
          refine lv_iload_n hx hb dX7_whole_83 rfl (lv_at hl 5 rfl) ?_
          refine lv_iconst (v := (2 : Int32)) hx hb dX7_whole_84 (by decide) ?_
          refine lv_icmp_ne (tgt := 104) hx hb dX7_whole_85 (by decide) (fun c_11 => ?_) (fun c_11 => ?_)
          · exact cut104 w ls (by rw [← heq79, mX7_whole_C79, if_neg c_3, if_neg c_11]) (lv_sub hl [0, 1, 2, 3, 4, 5] rfl)
          · refine lv_lload hx hb dX7_whole_88 (lv_at hl 1 rfl) ?_
            refine lv_ldc2 (v := (4602678819172646912 : Int64)) hx hb hown (hts (.constantLong RX7 85 (4602678819172646912)) (by decide +kernel)) dX7_whole_90 ?_
            refine W.lcmp hx hb dX7_whole_93 ?_
            refine lv_if_le (tgt := 101) hx hb dX7_whole_94 (by decide) (fun c_12 => ?_) (fun c_12 => ?_)
            · refine lv_iconst (v := (0 : Int32)) hx hb dX7_whole_101 (by decide) ?_
              refine lv_istore (lv' := [(8, .int (0 : Int32)), (6, .long (mX7_size a0)), (4, .long (a0 &&& (-9223372036854775808 : Int64))), (3, .int ((((mX7_size a0) >>> ((52 : Int32).toInt64 &&& 63)).toInt32) - (1023 : Int32))), (0, .long a0), (2, .int a1)]) hx hb dX7_whole_102 hl (by decide) rfl (fun ls hl => ?_)
              exact cut104 (0 : Int32) ls (by rw [← heq79, mX7_whole_C79, if_neg c_3, if_pos c_11, if_pos c_12]) (lv_sub hl [0, 1, 2, 3, 4, 5] rfl)
            · refine lv_iconst (v := (1 : Int32)) hx hb dX7_whole_97 (by decide) ?_
              refine lv_goto (tgt := 102) hx hb dX7_whole_98 (by decide) ?_
              refine lv_istore (lv' := [(8, .int (1 : Int32)), (6, .long (mX7_size a0)), (4, .long (a0 &&& (-9223372036854775808 : Int64))), (3, .int ((((mX7_size a0) >>> ((52 : Int32).toInt64 &&& 63)).toInt32) - (1023 : Int32))), (0, .long a0), (2, .int a1)]) hx hb dX7_whole_102 hl (by decide) rfl (fun ls hl => ?_)
              exact cut104 (1 : Int32) ls (by rw [← heq79, mX7_whole_C79, if_neg c_3, if_pos c_11, if_neg c_12]) (lv_sub hl [0, 1, 2, 3, 4, 5] rfl)
      refine lv_iload_n hx hb dX7_whole_41 rfl (lv_at hl 4 rfl) ?_
      refine lv_if_ne (tgt := 60) hx hb dX7_whole_42 (by decide) (fun c_13 => ?_) (fun c_13 => ?_)
      · refine lv_iload_n hx hb dX7_whole_60 rfl (lv_at hl 4 rfl) ?_
        refine lv_iconst (v := (1 : Int32)) hx hb dX7_whole_61 (by decide) ?_
        refine lv_icmp_ne (tgt := 76) hx hb dX7_whole_62 (by decide) (fun c_14 => ?_) (fun c_14 => ?_)
        · refine lv_iconst (v := (0 : Int32)) hx hb dX7_whole_76 (by decide) ?_
          refine lv_istore (lv' := [(8, .int (0 : Int32)), (6, .long (mX7_size a0)), (4, .long (a0 &&& (-9223372036854775808 : Int64))), (3, .int ((((mX7_size a0) >>> ((52 : Int32).toInt64 &&& 63)).toInt32) - (1023 : Int32))), (0, .long a0), (2, .int a1)]) hx hb dX7_whole_77 hl (by decide) rfl (fun ls hl => ?_)
          exact cut79 (0 : Int32) ls (by rw [mX7_whole, if_neg c_1, if_neg c_2, if_neg c_13, if_neg c_14]) (lv_sub hl [0, 1, 2, 3, 4, 5] rfl)
        · refine lv_lload hx hb dX7_whole_65 (lv_at hl 1 rfl) ?_
          refine lv_lconst (v := (0 : Int64)) hx hb dX7_whole_67 (by decide) ?_
          refine W.lcmp hx hb dX7_whole_68 ?_
          refine lv_if_ne (tgt := 76) hx hb dX7_whole_69 (by decide) (fun c_15 => ?_) (fun c_15 => ?_)
          · refine lv_iconst (v := (0 : Int32)) hx hb dX7_whole_76 (by decide) ?_
            refine lv_istore (lv' := [(8, .int (0 : Int32)), (6, .long (mX7_size a0)), (4, .long (a0 &&& (-9223372036854775808 : Int64))), (3, .int ((((mX7_size a0) >>> ((52 : Int32).toInt64 &&& 63)).toInt32) - (1023 : Int32))), (0, .long a0), (2, .int a1)]) hx hb dX7_whole_77 hl (by decide) rfl (fun ls hl => ?_)
            exact cut79 (0 : Int32) ls (by rw [mX7_whole, if_neg c_1, if_neg c_2, if_neg c_13, if_pos c_14, if_neg c_15]) (lv_sub hl [0, 1, 2, 3, 4, 5] rfl)
          · refine lv_iconst (v := (1 : Int32)) hx hb dX7_whole_72 (by decide) ?_
            refine lv_goto (tgt := 77) hx hb dX7_whole_73 (by decide) ?_
            refine lv_istore (lv' := [(8, .int (1 : Int32)), (6, .long (mX7_size a0)), (4, .long (a0 &&& (-9223372036854775808 : Int64))), (3, .int ((((mX7_size a0) >>> ((52 : Int32).toInt64 &&& 63)).toInt32) - (1023 : Int32))), (0, .long a0), (2, .int a1)]) hx hb dX7_whole_77 hl (by decide) rfl (fun ls hl => ?_)
            exact cut79 (1 : Int32) ls (by rw [mX7_whole, if_neg c_1, if_neg c_2, if_neg c_13, if_pos c_14, if_pos c_15]) (lv_sub hl [0, 1, 2, 3, 4, 5] rfl)
      · refine lv_lload hx hb dX7_whole_45 (lv_at hl 1 rfl) ?_
        refine lv_lconst (v := (0 : Int64)) hx hb dX7_whole_47 (by decide) ?_
        refine W.lcmp hx hb dX7_whole_48 ?_
        refine lv_if_eq (tgt := 56) hx hb dX7_whole_49 (by decide) (fun c_16 => ?_) (fun c_16 => ?_)
        · refine lv_iconst (v := (0 : Int32)) hx hb dX7_whole_56 (by decide) ?_
          refine lv_goto (tgt := 77) hx hb dX7_whole_57 (by decide) ?_
          refine lv_istore (lv' := [(8, .int (0 : Int32)), (6, .long (mX7_size a0)), (4, .long (a0 &&& (-9223372036854775808 : Int64))), (3, .int ((((mX7_size a0) >>> ((52 : Int32).toInt64 &&& 63)).toInt32) - (1023 : Int32))), (0, .long a0), (2, .int a1)]) hx hb dX7_whole_77 hl (by decide) rfl (fun ls hl => ?_)
          exact cut79 (0 : Int32) ls (by rw [mX7_whole, if_neg c_1, if_neg c_2, if_pos c_13, if_pos c_16]) (lv_sub hl [0, 1, 2, 3, 4, 5] rfl)
        · refine lv_iconst (v := (1 : Int32)) hx hb dX7_whole_52 (by decide) ?_
          refine lv_goto (tgt := 77) hx hb dX7_whole_53 (by decide) ?_
          refine lv_istore (lv' := [(8, .int (1 : Int32)), (6, .long (mX7_size a0)), (4, .long (a0 &&& (-9223372036854775808 : Int64))), (3, .int ((((mX7_size a0) >>> ((52 : Int32).toInt64 &&& 63)).toInt32) - (1023 : Int32))), (0, .long a0), (2, .int a1)]) hx hb dX7_whole_77 hl (by decide) rfl (fun ls hl => ?_)
          exact cut79 (1 : Int32) ls (by rw [mX7_whole, if_neg c_1, if_neg c_2, if_pos c_13, if_neg c_16]) (lv_sub hl [0, 1, 2, 3, 4, 5] rfl)
    · refine lv_lload_n hx hb dX7_whole_39 rfl (lv_at hl 3 rfl) ?_
      exact W.lret (v := a0) hx hb hr (fun t ht _ => ⟨by rw [mX7_whole, if_neg c_1, if_pos c_2], ht⟩) (fun _ h => by cases h) dX7_whole_40
