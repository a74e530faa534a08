theorem ptm_in {k : Int32} (h : ¬ mX7_isPoint k = 0) : vp_in k 8 := pt_in (by
  have : mX7_isPoint k = mX6_isPoint k := rfl
  rw [← this]; exact h)

def mX7_whole4_C182 (a0 : Int32) (a1 : Int32) (w : Int32) (w3 : Int32) : Int32 := (if w3 = 0 then ((a0 &&& (-2147483648 : Int32)) ||| ((mX7_size4 a0) - ((mX7_size4 a0) &&& (((1 : Int32) <<< (((23 : Int32) - (((mX7_size4 a0) >>> ((23 : Int32) &&& 31)) - (127 : Int32))) &&& 31)) - (1 : Int32))))) else ((a0 &&& (-2147483648 : Int32)) ||| (((mX7_size4 a0) - ((mX7_size4 a0) &&& (((1 : Int32) <<< (((23 : Int32) - (((mX7_size4 a0) >>> ((23 : Int32) &&& 31)) - (127 : Int32))) &&& 31)) - (1 : Int32)))) + ((1 : Int32) <<< (((23 : Int32) - (((mX7_size4 a0) >>> ((23 : Int32) &&& 31)) - (127 : Int32))) &&& 31)))))
def mX7_whole4_C90 (a0 : Int32) (a1 : Int32) (w : Int32) (w2 : Int32) : Int32 := (if w2 = 0 then ((a0 &&& (-2147483648 : Int32)) ||| (0 : Int32)) else ((a0 &&& (-2147483648 : Int32)) ||| (1065353216 : Int32)))
def mX7_whole4_C67 (a0 : Int32) (a1 : Int32) (w : Int32) : Int32 := (if 0 ≤ (((mX7_size4 a0) >>> ((23 : Int32) &&& 31)) - (127 : Int32)) then (if ((mX7_size4 a0) &&& (((1 : Int32) <<< (((23 : Int32) - (((mX7_size4 a0) >>> ((23 : Int32) &&& 31)) - (127 : Int32))) &&& 31)) - (1 : Int32))) = 0 then a0 else (if a1 = (2 : Int32) then (if (((1 : Int32) <<< (((23 : Int32) - (((mX7_size4 a0) >>> ((23 : Int32) &&& 31)) - (127 : Int32))) &&& 31)) / (2 : Int32)) < ((mX7_size4 a0) &&& (((1 : Int32) <<< (((23 : Int32) - (((mX7_size4 a0) >>> ((23 : Int32) &&& 31)) - (127 : Int32))) &&& 31)) - (1 : Int32))) then (mX7_whole4_C182 a0 a1 w (1 : Int32)) else (if ((mX7_size4 a0) &&& (((1 : Int32) <<< (((23 : Int32) - (((mX7_size4 a0) >>> ((23 : Int32) &&& 31)) - (127 : Int32))) &&& 31)) - (1 : Int32))) = (((1 : Int32) <<< (((23 : Int32) - (((mX7_size4 a0) >>> ((23 : Int32) &&& 31)) - (127 : Int32))) &&& 31)) / (2 : Int32)) then (if (((mX7_size4 a0) >>> ((23 : Int32) &&& 31)) - (127 : Int32)) = 0 then (mX7_whole4_C182 a0 a1 w (1 : Int32)) else (if ((((mX7_size4 a0) - ((mX7_size4 a0) &&& (((1 : Int32) <<< (((23 : Int32) - (((mX7_size4 a0) >>> ((23 : Int32) &&& 31)) - (127 : Int32))) &&& 31)) - (1 : Int32)))) >>> (((23 : Int32) - (((mX7_size4 a0) >>> ((23 : Int32) &&& 31)) - (127 : Int32))) &&& 31)) &&& (1 : Int32)) = (1 : Int32) then (mX7_whole4_C182 a0 a1 w (1 : Int32)) else (mX7_whole4_C182 a0 a1 w (0 : Int32)))) else (mX7_whole4_C182 a0 a1 w (0 : Int32)))) else (mX7_whole4_C182 a0 a1 w w))) else (if a1 = (2 : Int32) then (if (mX7_size4 a0) ≤ (1056964608 : Int32) then (mX7_whole4_C90 a0 a1 w (0 : Int32)) else (mX7_whole4_C90 a0 a1 w (1 : Int32))) else (mX7_whole4_C90 a0 a1 w w)))
def mX7_whole4 (a0 : Int32) (a1 : Int32) : Int32 := (if (23 : Int32) ≤ (((mX7_size4 a0) >>> ((23 : Int32) &&& 31)) - (127 : Int32)) then a0 else (if (mX7_size4 a0) = 0 then a0 else (if a1 = 0 then (if (a0 &&& (-2147483648 : Int32)) = 0 then (mX7_whole4_C67 a0 a1 (0 : Int32)) else (mX7_whole4_C67 a0 a1 (1 : Int32))) else (if a1 = (1 : Int32) then (if (a0 &&& (-2147483648 : Int32)) = 0 then (mX7_whole4_C67 a0 a1 (1 : Int32)) else (mX7_whole4_C67 a0 a1 (0 : Int32))) else (mX7_whole4_C67 a0 a1 (0 : Int32))))))
set_option maxHeartbeats 4000000 in
set_option maxRecDepth 100000 in
theorem ct_X7_whole4 (l : Launch) (a0 : Int32) (a1 : Int32) : Met l yX7_whole4 wsX7_whole4 { frames := 1, cells := 0, slots := 0, locals := 20 } (fun v _ => v = ([.int a0, .int a1] : List Value).toArray) (k2_QcV (.int (mX7_whole4 a0 a1))) 0 0 (fun _ => False) := by
  refine Met.ofW (cc := cX7_whole4) (maxL := 9) (ret := (some .int)) (by decide) rfl ?_
  intro p e s m args below meth c s₁ B hml hv
  subst hv
  have hx := B.exec
  have hb := B.bytes
  have hr := B.returns
  have hts := atoms_spec (ws := wsX7_whole4) B.pre
  have hown : s.vm.findClass RX7 = some m.cls := findClass_of_methodNamed B.named
  have hlocks := B.notSynchronized
  have hl := lv_entry ([.int a0, .int a1]) (n := 9) (Nat.le_of_ble_eq_true rfl)
  rw [lg_entry_eq]
  generalize (lg_sl ([.int a0, .int a1]) ++ List.replicate (9 - (lg_sl ([.int a0, .int a1])).length) Slot.unset).toArray = ls at hl ⊢
  have hl : lv_has ls 9 [(0, .int a0), (1, .int a1)] := hl
  refine lv_iload_n hx hb dX7_whole4_0 rfl (lv_at hl 0 rfl) ?_
  refine hc_S (As := [.int a0]) (rest := []) ⟨hx, hb, hml, hown, hts⟩ (ct_X7_size4 l a0) (va_cwS 1 hts gX7_whole4_X7_size4 rfl rfl rfl (by decide +kernel) ⟨Nat.le_of_ble_eq_true rfl, Nat.le_of_ble_eq_true rfl⟩) rfl hl.1 rfl (Nat.le_of_ble_eq_true rfl) dX7_whole4_1 ⟨Nat.le_of_ble_eq_true rfl, Nat.le_of_ble_eq_true rfl⟩ ?_
  refine lv_bipush (v := (23 : Int32)) hx hb dX7_whole4_4 (by decide) ?_
  refine lv_ishr hx hb dX7_whole4_6 ?_
  refine lv_bipush (v := (127 : Int32)) hx hb dX7_whole4_7 (by decide) ?_
  refine lv_isub hx hb dX7_whole4_9 ?_
  refine lv_istore_n (lv' := [(2, .int (((mX7_size4 a0) >>> ((23 : Int32) &&& 31)) - (127 : Int32))), (0, .int a0), (1, .int a1)]) hx hb dX7_whole4_10 rfl hl (by decide) rfl (fun ls hl => ?_)
  refine lv_iload_n hx hb dX7_whole4_11 rfl (lv_at hl 1 rfl) ?_
  refine lv_ldc (v := (-2147483648 : Int32)) hx hb hown (hts (.constant RX7 98 (-2147483648)) (by decide +kernel)) dX7_whole4_12 ?_
  refine lv_iand hx hb dX7_whole4_14 ?_
  refine lv_istore_n (lv' := [(3, .int (a0 &&& (-2147483648 : Int32))), (2, .int (((mX7_size4 a0) >>> ((23 : Int32) &&& 31)) - (127 : Int32))), (0, .int a0), (1, .int a1)]) hx hb dX7_whole4_15 rfl hl (by decide) rfl (fun ls hl => ?_)
  refine lv_iload_n hx hb dX7_whole4_16 rfl (lv_at hl 2 rfl) ?_
  refine hc_S (As := [.int a0]) (rest := []) ⟨hx, hb, hml, hown, hts⟩ (ct_X7_size4 l a0) (va_cwS 1 hts gX7_whole4_X7_size4 rfl rfl rfl (by decide +kernel) ⟨Nat.le_of_ble_eq_true rfl, Nat.le_of_ble_eq_true rfl⟩) rfl hl.1 rfl (Nat.le_of_ble_eq_true rfl) dX7_whole4_17 ⟨Nat.le_of_ble_eq_true rfl, Nat.le_of_ble_eq_true rfl⟩ ?_
  refine lv_istore (lv' := [(4, .int (mX7_size4 a0)), (3, .int (a0 &&& (-2147483648 : Int32))), (2, .int (((mX7_size4 a0) >>> ((23 : Int32) &&& 31)) - (127 : Int32))), (0, .int a0), (1, .int a1)]) hx hb dX7_whole4_20 hl (by decide) rfl (fun ls hl => ?_)
  refine lv_iload_n hx hb dX7_whole4_22 rfl (lv_at hl 2 rfl) ?_
  refine lv_bipush (v := (23 : Int32)) hx hb dX7_whole4_23 (by decide) ?_
  refine lv_icmp_ge (tgt := 33) hx hb dX7_whole4_25 (by decide) (fun c_1 => ?_) (fun c_1 => ?_)
  · refine lv_iload_n hx hb dX7_whole4_33 rfl (lv_at hl 3 rfl) ?_
    exact W.iret (v := a0) hx hb hr (fun t ht _ => ⟨by rw [mX7_whole4, if_pos c_1], ht⟩) (fun _ h => by cases h) dX7_whole4_34
  · refine lv_iload hx hb dX7_whole4_28 (lv_at hl 0 rfl) ?_
    refine lv_if_ne (tgt := 35) hx hb dX7_whole4_30 (by decide) (fun c_2 => ?_) (fun c_2 => ?_)
    · have cut67 : ∀ (w : Int32) (ls : Array Slot), mX7_whole4_C67 a0 a1 w = mX7_whole4 a0 a1 → lv_has ls 9 [(5, .int w), (4, .int (mX7_size4 a0)), (3, .int (a0 &&& (-2147483648 : Int32))), (2, .int (((mX7_size4 a0) >>> ((23 : Int32) &&& 31)) - (127 : Int32))), (0, .int a0), (1, .int a1)] → W p l e (headSpec wsX7_whole4 { frames := 1, cells := 0, slots := 0, locals := 20 }).room s m ([.int a0, .int a1] : List Value).toArray below meth c s.heap [] 0 0 (MQ below (k2_QcV (.int (mX7_whole4 a0 a1))) ([.int a0, .int a1] : List Value).toArray s 0 0 (fun _ => False)) (F0 m 67 ls []) := by
        intro w ls heq67 hl
        refine lv_iload_n hx hb dX7_whole4_67 rfl (lv_at hl 3 rfl) ?_
        refine lv_if_ge (tgt := 104) hx hb dX7_whole4_68 (by decide) (fun c_3 => ?_) (fun c_3 => ?_)
        · refine lv_iconst (v := (1 : Int32)) hx hb dX7_whole4_104 (by decide) ?_
          refine lv_bipush (v := (23 : Int32)) hx hb dX7_whole4_105 (by decide) ?_
          refine lv_iload_n hx hb dX7_whole4_107 rfl (lv_at hl 3 rfl) ?_
          refine lv_isub hx hb dX7_whole4_108 ?_
          refine lv_ishl hx hb dX7_whole4_109 ?_
          refine lv_istore (lv' := [(6, .int ((1 : Int32) <<< (((23 : Int32) - (((mX7_size4 a0) >>> ((23 : Int32) &&& 31)) - (127 : Int32))) &&& 31))), (5, .int w), (4, .int (mX7_size4 a0)), (3, .int (a0 &&& (-2147483648 : Int32))), (2, .int (((mX7_size4 a0) >>> ((23 : Int32) &&& 31)) - (127 : Int32))), (0, .int a0), (1, .int a1)]) hx hb dX7_whole4_110 hl (by decide) rfl (fun ls hl => ?_)
          refine lv_iload hx hb dX7_whole4_112 (lv_at hl 2 rfl) ?_
          refine lv_iload hx hb dX7_whole4_114 (lv_at hl 0 rfl) ?_
          refine lv_iconst (v := (1 : Int32)) hx hb dX7_whole4_116 (by decide) ?_
          refine lv_isub hx hb dX7_whole4_117 ?_
          refine lv_iand hx hb dX7_whole4_118 ?_
          refine lv_istore (lv' := [(7, .int ((mX7_size4 a0) &&& (((1 : Int32) <<< (((23 : Int32) - (((mX7_size4 a0) >>> ((23 : Int32) &&& 31)) - (127 : Int32))) &&& 31)) - (1 : Int32)))), (6, .int ((1 : Int32) <<< (((23 : Int32) - (((mX7_size4 a0) >>> ((23 : Int32) &&& 31)) - (127 : Int32))) &&& 31))), (5, .int w), (4, .int (mX7_size4 a0)), (3, .int (a0 &&& (-2147483648 : Int32))), (2, .int (((mX7_size4 a0) >>> ((23 : Int32) &&& 31)) - (127 : Int32))), (0, .int a0), (1, .int a1)]) hx hb dX7_whole4_119 hl (by decide) rfl (fun ls hl => ?_)
          refine lv_iload hx hb dX7_whole4_121 (lv_at hl 3 rfl) ?_
          refine lv_iload hx hb dX7_whole4_123 (lv_at hl 0 rfl) ?_
          refine lv_isub hx hb dX7_whole4_125 ?_
          refine lv_istore (lv' := [(8, .int ((mX7_size4 a0) - ((mX7_size4 a0) &&& (((1 : Int32) <<< (((23 : Int32) - (((mX7_size4 a0) >>> ((23 : Int32) &&& 31)) - (127 : Int32))) &&& 31)) - (1 : Int32))))), (7, .int ((mX7_size4 a0) &&& (((1 : Int32) <<< (((23 : Int32) - (((mX7_size4 a0) >>> ((23 : Int32) &&& 31)) - (127 : Int32))) &&& 31)) - (1 : Int32)))), (6, .int ((1 : Int32) <<< (((23 : Int32) - (((mX7_size4 a0) >>> ((23 : Int32) &&& 31)) - (127 : Int32))) &&& 31))), (5, .int w), (4, .int (mX7_size4 a0)), (3, .int (a0 &&& (-2147483648 : Int32))), (2, .int (((mX7_size4 a0) >>> ((23 : Int32) &&& 31)) - (127 : Int32))), (0, .int a0), (1, .int a1)]) hx hb dX7_whole4_126 hl (by decide) rfl (fun ls hl => ?_)
          refine lv_iload hx hb dX7_whole4_128 (lv_at hl 1 rfl) ?_
          refine lv_if_ne (tgt := 135) hx hb dX7_whole4_130 (by decide) (fun c_4 => ?_) (fun c_4 => ?_)
          · have cut182 : ∀ (w3 : Int32) (ls : Array Slot), mX7_whole4_C182 a0 a1 w w3 = mX7_whole4 a0 a1 → lv_has ls 9 [(5, .int w3), (8, .int ((mX7_size4 a0) - ((mX7_size4 a0) &&& (((1 : Int32) <<< (((23 : Int32) - (((mX7_size4 a0) >>> ((23 : Int32) &&& 31)) - (127 : Int32))) &&& 31)) - (1 : Int32))))), (7, .int ((mX7_size4 a0) &&& (((1 : Int32) <<< (((23 : Int32) - (((mX7_size4 a0) >>> ((23 : Int32) &&& 31)) - (127 : Int32))) &&& 31)) - (1 : Int32)))), (6, .int ((1 : Int32) <<< (((23 : Int32) - (((mX7_size4 a0) >>> ((23 : Int32) &&& 31)) - (127 : Int32))) &&& 31))), (4, .int (mX7_size4 a0)), (3, .int (a0 &&& (-2147483648 : Int32))), (2, .int (((mX7_size4 a0) >>> ((23 : Int32) &&& 31)) - (127 : Int32))), (0, .int a0), (1, .int a1)] → W p l e (headSpec wsX7_whole4 { frames := 1, cells := 0, slots := 0, locals := 20 }).room s m ([.int a0, .int a1] : List Value).toArray below meth c s.heap [] 0 0 (MQ below (k2_QcV (.int (mX7_whole4 a0 a1))) ([.int a0, .int a1] : List Value).toArray s 0 0 (fun _ => False)) (F0 m 182 ls []) := by
              intro w3 ls heq182 hl
              refine lv_iload_n hx hb dX7_whole4_182 rfl (lv_at hl 5 rfl) ?_
              refine lv_iload hx hb dX7_whole4_183 (lv_at hl 0 rfl) ?_
              refine lv_if_eq (tgt := 196) hx hb dX7_whole4_185 (by decide) (fun c_5 => ?_) (fun c_5 => ?_)
              · refine lv_iload hx hb dX7_whole4_196 (lv_at hl 1 rfl) ?_
                refine lv_ior hx hb dX7_whole4_198 ?_
                exact W.iret (v := ((a0 &&& (-2147483648 : Int32)) ||| ((mX7_size4 a0) - ((mX7_size4 a0) &&& (((1 : Int32) <<< (((23 : Int32) - (((mX7_size4 a0) >>> ((23 : Int32) &&& 31)) - (127 : Int32))) &&& 31)) - (1 : Int32)))))) hx hb hr (fun t ht _ => ⟨by rw [← heq182, mX7_whole4_C182, if_pos c_5], ht⟩) (fun _ h => by cases h) dX7_whole4_199
              · refine lv_iload hx hb dX7_whole4_188 (lv_at hl 1 rfl) ?_
                refine lv_iload hx hb dX7_whole4_190 (lv_at hl 3 rfl) ?_
                refine lv_iadd hx hb dX7_whole4_192 ?_
                refine lv_goto (tgt := 198) hx hb dX7_whole4_193 (by decide) ?_
                refine lv_ior hx hb dX7_whole4_198 ?_
                exact W.iret (v := ((a0 &&& (-2147483648 : Int32)) ||| (((mX7_size4 a0) - ((mX7_size4 a0) &&& (((1 : Int32) <<< (((23 : Int32) - (((mX7_size4 a0) >>> ((23 : Int32) &&& 31)) - (127 : Int32))) &&& 31)) - (1 : Int32)))) + ((1 : Int32) <<< (((23 : Int32) - (((mX7_size4 a0) >>> ((23 : Int32) &&& 31)) - (127 : Int32))) &&& 31))))) hx hb hr (fun t ht _ => ⟨by rw [← heq182, mX7_whole4_C182, if_neg c_5], ht⟩) (fun _ h => by cases h) dX7_whole4_199
            refine lv_iload_n hx hb dX7_whole4_135 rfl (lv_at hl 8 rfl) ?_
            refine lv_iconst (v := (2 : Int32)) hx hb dX7_whole4_136 (by decide) ?_
            refine lv_icmp_ne (tgt := 182) hx hb dX7_whole4_137 (by decide) (fun c_6 => ?_) (fun c_6 => ?_)
            · exact cut182 w ls (by rw [← heq67, mX7_whole4_C67, if_pos c_3, if_neg c_4, if_neg c_6]) (lv_sub hl [3, 0, 1, 2, 4, 5, 6, 7, 8] rfl)
            · refine lv_iload hx hb dX7_whole4_140 (lv_at hl 1 rfl) ?_
              refine lv_iload hx hb dX7_whole4_142 (lv_at hl 2 rfl) ?_
              refine lv_iconst (v := (2 : Int32)) hx hb dX7_whole4_144 (by decide) ?_
              refine lv_idiv hx hb dX7_whole4_145 (by decide) ?_
              refine lv_icmp_gt (tgt := 175) hx hb dX7_whole4_146 (by decide) (fun c_7 => ?_) (fun c_7 => ?_)
              · refine lv_iconst (v := (1 : Int32)) hx hb dX7_whole4_175 (by decide) ?_
                refine lv_goto (tgt := 180) hx hb dX7_whole4_176 (by decide) ?_
                refine lv_istore (lv' := [(5, .int (1 : Int32)), (8, .int ((mX7_size4 a0) - ((mX7_size4 a0) &&& (((1 : Int32) <<< (((23 : Int32) - (((mX7_size4 a0) >>> ((23 : Int32) &&& 31)) - (127 : Int32))) &&& 31)) - (1 : Int32))))), (7, .int ((mX7_size4 a0) &&& (((1 : Int32) <<< (((23 : Int32) - (((mX7_size4 a0) >>> ((23 : Int32) &&& 31)) - (127 : Int32))) &&& 31)) - (1 : Int32)))), (6, .int ((1 : Int32) <<< (((23 : Int32) - (((mX7_size4 a0) >>> ((23 : Int32) &&& 31)) - (127 : Int32))) &&& 31))), (4, .int (mX7_size4 a0)), (3, .int (a0 &&& (-2147483648 : Int32))), (2, .int (((mX7_size4 a0) >>> ((23 : Int32) &&& 31)) - (127 : Int32))), (0, .int a0), (1, .int a1)]) hx hb dX7_whole4_180 hl (by decide) rfl (fun ls hl => ?_)
                exact cut182 (1 : Int32) ls (by rw [← heq67, mX7_whole4_C67, if_pos c_3, if_neg c_4, if_pos c_6, if_pos c_7]) (lv_sub hl [0, 1, 2, 3, 4, 5, 6, 7, 8] rfl)
              · refine lv_iload hx hb dX7_whole4_149 (lv_at hl 1 rfl) ?_
                refine lv_iload hx hb dX7_whole4_151 (lv_at hl 2 rfl) ?_
                refine lv_iconst (v := (2 : Int32)) hx hb dX7_whole4_153 (by decide) ?_
                refine lv_idiv hx hb dX7_whole4_154 (by decide) ?_
                refine lv_icmp_ne (tgt := 179) hx hb dX7_whole4_155 (by decide) (fun c_8 => ?_) (fun c_8 => ?_)
                · refine lv_iconst (v := (0 : Int32)) hx hb dX7_whole4_179 (by decide) ?_
                  refine lv_istore (lv' := [(5, .int (0 : Int32)), (8, .int ((mX7_size4 a0) - ((mX7_size4 a0) &&& (((1 : Int32) <<< (((23 : Int32) - (((mX7_size4 a0) >>> ((23 : Int32) &&& 31)) - (127 : Int32))) &&& 31)) - (1 : Int32))))), (7, .int ((mX7_size4 a0) &&& (((1 : Int32) <<< (((23 : Int32) - (((mX7_size4 a0) >>> ((23 : Int32) &&& 31)) - (127 : Int32))) &&& 31)) - (1 : Int32)))), (6, .int ((1 : Int32) <<< (((23 : Int32) - (((mX7_size4 a0) >>> ((23 : Int32) &&& 31)) - (127 : Int32))) &&& 31))), (4, .int (mX7_size4 a0)), (3, .int (a0 &&& (-2147483648 : Int32))), (2, .int (((mX7_size4 a0) >>> ((23 : Int32) &&& 31)) - (127 : Int32))), (0, .int a0), (1, .int a1)]) hx hb dX7_whole4_180 hl (by decide) rfl (fun ls hl => ?_)
                  exact cut182 (0 : Int32) ls (by rw [← heq67, mX7_whole4_C67, if_pos c_3, if_neg c_4, if_pos c_6, if_neg c_7, if_neg c_8]) (lv_sub hl [0, 1, 2, 3, 4, 5, 6, 7, 8] rfl)
                · refine lv_iload_n hx hb dX7_whole4_158 rfl (lv_at hl 6 rfl) ?_
                  refine lv_if_eq (tgt := 175) hx hb dX7_whole4_159 (by decide) (fun c_9 => ?_) (fun c_9 => ?_)
                  · refine lv_iconst (v := (1 : Int32)) hx hb dX7_whole4_175 (by decide) ?_
                    refine lv_goto (tgt := 180) hx hb dX7_whole4_176 (by decide) ?_
                    refine lv_istore (lv' := [(5, .int (1 : Int32)), (8, .int ((mX7_size4 a0) - ((mX7_size4 a0) &&& (((1 : Int32) <<< (((23 : Int32) - (((mX7_size4 a0) >>> ((23 : Int32) &&& 31)) - (127 : Int32))) &&& 31)) - (1 : Int32))))), (7, .int ((mX7_size4 a0) &&& (((1 : Int32) <<< (((23 : Int32) - (((mX7_size4 a0) >>> ((23 : Int32) &&& 31)) - (127 : Int32))) &&& 31)) - (1 : Int32)))), (6, .int ((1 : Int32) <<< (((23 : Int32) - (((mX7_size4 a0) >>> ((23 : Int32) &&& 31)) - (127 : Int32))) &&& 31))), (4, .int (mX7_size4 a0)), (3, .int (a0 &&& (-2147483648 : Int32))), (2, .int (((mX7_size4 a0) >>> ((23 : Int32) &&& 31)) - (127 : Int32))), (0, .int a0), (1, .int a1)]) hx hb dX7_whole4_180 hl (by decide) rfl (fun ls hl => ?_)
                    exact cut182 (1 : Int32) ls (by rw [← heq67, mX7_whole4_C67, if_pos c_3, if_neg c_4, if_pos c_6, if_neg c_7, if_pos c_8, if_pos c_9]) (lv_sub hl [0, 1, 2, 3, 4, 5, 6, 7, 8] rfl)
                  · refine lv_iload hx hb dX7_whole4_162 (lv_at hl 0 rfl) ?_
                    refine lv_bipush (v := (23 : Int32)) hx hb dX7_whole4_164 (by decide) ?_
                    refine lv_iload_n hx hb dX7_whole4_166 rfl (lv_at hl 6 rfl) ?_
                    refine lv_isub hx hb dX7_whole4_167 ?_
                    refine lv_ishr hx hb dX7_whole4_168 ?_
                    refine lv_iconst (v := (1 : Int32)) hx hb dX7_whole4_169 (by decide) ?_
                    refine lv_iand hx hb dX7_whole4_170 ?_
                    refine lv_iconst (v := (1 : Int32)) hx hb dX7_whole4_171 (by decide) ?_
                    refine lv_icmp_ne (tgt := 179) hx hb dX7_whole4_172 (by decide) (fun c_10 => ?_) (fun c_10 => ?_)
                    · refine lv_iconst (v := (0 : Int32)) hx hb dX7_whole4_179 (by decide) ?_
                      refine lv_istore (lv' := [(5, .int (0 : Int32)), (8, .int ((mX7_size4 a0) - ((mX7_size4 a0) &&& (((1 : Int32) <<< (((23 : Int32) - (((mX7_size4 a0) >>> ((23 : Int32) &&& 31)) - (127 : Int32))) &&& 31)) - (1 : Int32))))), (7, .int ((mX7_size4 a0) &&& (((1 : Int32) <<< (((23 : Int32) - (((mX7_size4 a0) >>> ((23 : Int32) &&& 31)) - (127 : Int32))) &&& 31)) - (1 : Int32)))), (6, .int ((1 : Int32) <<< (((23 : Int32) - (((mX7_size4 a0) >>> ((23 : Int32) &&& 31)) - (127 : Int32))) &&& 31))), (4, .int (mX7_size4 a0)), (3, .int (a0 &&& (-2147483648 : Int32))), (2, .int (((mX7_size4 a0) >>> ((23 : Int32) &&& 31)) - (127 : Int32))), (0, .int a0), (1, .int a1)]) hx hb dX7_whole4_180 hl (by decide) rfl (fun ls hl => ?_)
                      exact cut182 (0 : Int32) ls (by rw [← heq67, mX7_whole4_C67, if_pos c_3, if_neg c_4, if_pos c_6, if_neg c_7, if_pos c_8, if_neg c_9, if_neg c_10]) (lv_sub hl [0, 1, 2, 3, 4, 5, 6, 7, 8] rfl)
                    · refine lv_iconst (v := (1 : Int32)) hx hb dX7_whole4_175 (by decide) ?_
                      refine lv_goto (tgt := 180) hx hb dX7_whole4_176 (by decide) ?_
                      refine lv_istore (lv' := [(5, .int (1 : Int32)), (8, .int ((mX7_size4 a0) - ((mX7_size4 a0) &&& (((1 : Int32) <<< (((23 : Int32) - (((mX7_size4 a0) >>> ((23 : Int32) &&& 31)) - (127 : Int32))) &&& 31)) - (1 : Int32))))), (7, .int ((mX7_size4 a0) &&& (((1 : Int32) <<< (((23 : Int32) - (((mX7_size4 a0) >>> ((23 : Int32) &&& 31)) - (127 : Int32))) &&& 31)) - (1 : Int32)))), (6, .int ((1 : Int32) <<< (((23 : Int32) - (((mX7_size4 a0) >>> ((23 : Int32) &&& 31)) - (127 : Int32))) &&& 31))), (4, .int (mX7_size4 a0)), (3, .int (a0 &&& (-2147483648 : Int32))), (2, .int (((mX7_size4 a0) >>> ((23 : Int32) &&& 31)) - (127 : Int32))), (0, .int a0), (1, .int a1)]) hx hb dX7_whole4_180 hl (by decide) rfl (fun ls hl => ?_)
                      exact cut182 (1 : Int32) ls (by rw [← heq67, mX7_whole4_C67, if_pos c_3, if_neg c_4, if_pos c_6, if_neg c_7, if_pos c_8, if_neg c_9, if_pos c_10]) (lv_sub hl [0, 1, 2, 3, 4, 5, 6, 7, 8] rfl)
          · refine lv_iload_n hx hb dX7_whole4_133 rfl (lv_at hl 7 rfl) ?_
            exact W.iret (v := a0) hx hb hr (fun t ht _ => ⟨by rw [← heq67, mX7_whole4_C67, if_pos c_3, if_pos c_4], ht⟩) (fun _ h => by cases h) dX7_whole4_134
        · have cut90 : ∀ (w2 : Int32) (ls : Array Slot), mX7_whole4_C90 a0 a1 w w2 = mX7_whole4 a0 a1 → lv_has ls 9 [(5, .int w2), (4, .int (mX7_size4 a0)), (3, .int (a0 &&& (-2147483648 : Int32))), (2, .int (((mX7_size4 a0) >>> ((23 : Int32) &&& 31)) - (127 : Int32))), (0, .int a0), (1, .int a1)] → W p l e (headSpec wsX7_whole4 { frames := 1, cells := 0, slots := 0, locals := 20 }).room s m ([.int a0, .int a1] : List Value).toArray below meth c s.heap [] 0 0 (MQ below (k2_QcV (.int (mX7_whole4 a0 a1))) ([.int a0, .int a1] : List Value).toArray s 0 0 (fun _ => False)) (F0 m 90 ls []) := by
            intro w2 ls heq90 hl
            refine lv_iload_n hx hb dX7_whole4_90 rfl (lv_at hl 2 rfl) ?_
            refine lv_iload hx hb dX7_whole4_91 (lv_at hl 0 rfl) ?_
            refine lv_if_eq (tgt := 101) hx hb dX7_whole4_93 (by decide) (fun c_11 => ?_) (fun c_11 => ?_)
            · refine lv_iconst (v := (0 : Int32)) hx hb dX7_whole4_101 (by decide) ?_
              refine lv_ior hx hb dX7_whole4_102 ?_
              exact W.iret (v := ((a0 &&& (-2147483648 : Int32)) ||| (0 : Int32))) hx hb hr (fun t ht _ => ⟨by rw [← heq90, mX7_whole4_C90, if_pos c_11], ht⟩) (fun _ h => by cases h) dX7_whole4_103
            · refine lv_ldc (v := (1065353216 : Int32)) hx hb hown (hts (.constant RX7 42 (1065353216)) (by decide +kernel)) dX7_whole4_96 ?_
              refine lv_goto (tgt := 102) hx hb dX7_whole4_98 (by decide) ?_
              refine lv_ior hx hb dX7_whole4_102 ?_
              exact W.iret (v := ((a0 &&& (-2147483648 : Int32)) ||| (1065353216 : Int32))) hx hb hr (fun t ht _ => ⟨by rw [← heq90, mX7_whole4_C90, if_neg c_11], ht⟩) (fun _ h => by cases h) dX7_whole4_103
          refine lv_iload_n hx hb dX7_whole4_71 rfl (lv_at hl 5 rfl) ?_
          refine lv_iconst (v := (2 : Int32)) hx hb dX7_whole4_72 (by decide) ?_
          refine lv_icmp_ne (tgt := 90) hx hb dX7_whole4_73 (by decide) (fun c_12 => ?_) (fun c_12 => ?_)
          · exact cut90 w ls (by rw [← heq67, mX7_whole4_C67, if_neg c_3, if_neg c_12]) (lv_sub hl [0, 1, 2, 3, 4, 5] rfl)
          · refine lv_iload hx hb dX7_whole4_76 (lv_at hl 1 rfl) ?_
            refine lv_ldc (v := (1056964608 : Int32)) hx hb hown (hts (.constant RX7 116 (1056964608)) (by decide +kernel)) dX7_whole4_78 ?_
            refine lv_icmp_le (tgt := 87) hx hb dX7_whole4_80 (by decide) (fun c_13 => ?_) (fun c_13 => ?_)
            · refine lv_iconst (v := (0 : Int32)) hx hb dX7_whole4_87 (by decide) ?_
              refine lv_istore (lv' := [(5, .int (0 : Int32)), (4, .int (mX7_size4 a0)), (3, .int (a0 &&& (-2147483648 : Int32))), (2, .int (((mX7_size4 a0) >>> ((23 : Int32) &&& 31)) - (127 : Int32))), (0, .int a0), (1, .int a1)]) hx hb dX7_whole4_88 hl (by decide) rfl (fun ls hl => ?_)
              exact cut90 (0 : Int32) ls (by rw [← heq67, mX7_whole4_C67, if_neg c_3, if_pos c_12, if_pos c_13]) (lv_sub hl [0, 1, 2, 3, 4, 5] rfl)
            · refine lv_iconst (v := (1 : Int32)) hx hb dX7_whole4_83 (by decide) ?_
              refine lv_goto (tgt := 88) hx hb dX7_whole4_84 (by decide) ?_
              refine lv_istore (lv' := [(5, .int (1 : Int32)), (4, .int (mX7_size4 a0)), (3, .int (a0 &&& (-2147483648 : Int32))), (2, .int (((mX7_size4 a0) >>> ((23 : Int32) &&& 31)) - (127 : Int32))), (0, .int a0), (1, .int a1)]) hx hb dX7_whole4_88 hl (by decide) rfl (fun ls hl => ?_)
              exact cut90 (1 : Int32) ls (by rw [← heq67, mX7_whole4_C67, if_neg c_3, if_pos c_12, if_neg c_13]) (lv_sub hl [0, 1, 2, 3, 4, 5] rfl)
      refine lv_iload_n hx hb dX7_whole4_35 rfl (lv_at hl 4 rfl) ?_
      refine lv_if_ne (tgt := 51) hx hb dX7_whole4_36 (by decide) (fun c_14 => ?_) (fun c_14 => ?_)
      · refine lv_iload_n hx hb dX7_whole4_51 rfl (lv_at hl 4 rfl) ?_
        refine lv_iconst (v := (1 : Int32)) hx hb dX7_whole4_52 (by decide) ?_
        refine lv_icmp_ne (tgt := 64) hx hb dX7_whole4_53 (by decide) (fun c_15 => ?_) (fun c_15 => ?_)
        · refine lv_iconst (v := (0 : Int32)) hx hb dX7_whole4_64 (by decide) ?_
          refine lv_istore (lv' := [(5, .int (0 : Int32)), (4, .int (mX7_size4 a0)), (3, .int (a0 &&& (-2147483648 : Int32))), (2, .int (((mX7_size4 a0) >>> ((23 : Int32) &&& 31)) - (127 : Int32))), (0, .int a0), (1, .int a1)]) hx hb dX7_whole4_65 hl (by decide) rfl (fun ls hl => ?_)
          exact cut67 (0 : Int32) ls (by rw [mX7_whole4, if_neg c_1, if_neg c_2, if_neg c_14, if_neg c_15]) (lv_sub hl [0, 1, 2, 3, 4, 5] rfl)
        · refine lv_iload_n hx hb dX7_whole4_56 rfl (lv_at hl 1 rfl) ?_
          refine lv_if_ne (tgt := 64) hx hb dX7_whole4_57 (by decide) (fun c_16 => ?_) (fun c_16 => ?_)
          · refine lv_iconst (v := (0 : Int32)) hx hb dX7_whole4_64 (by decide) ?_
            refine lv_istore (lv' := [(5, .int (0 : Int32)), (4, .int (mX7_size4 a0)), (3, .int (a0 &&& (-2147483648 : Int32))), (2, .int (((mX7_size4 a0) >>> ((23 : Int32) &&& 31)) - (127 : Int32))), (0, .int a0), (1, .int a1)]) hx hb dX7_whole4_65 hl (by decide) rfl (fun ls hl => ?_)
            exact cut67 (0 : Int32) ls (by rw [mX7_whole4, if_neg c_1, if_neg c_2, if_neg c_14, if_pos c_15, if_neg c_16]) (lv_sub hl [0, 1, 2, 3, 4, 5] rfl)
          · refine lv_iconst (v := (1 : Int32)) hx hb dX7_whole4_60 (by decide) ?_
            refine lv_goto (tgt := 65) hx hb dX7_whole4_61 (by decide) ?_
            refine lv_istore (lv' := [(5, .int (1 : Int32)), (4, .int (mX7_size4 a0)), (3, .int (a0 &&& (-2147483648 : Int32))), (2, .int (((mX7_size4 a0) >>> ((23 : Int32) &&& 31)) - (127 : Int32))), (0, .int a0), (1, .int a1)]) hx hb dX7_whole4_65 hl (by decide) rfl (fun ls hl => ?_)
            exact cut67 (1 : Int32) ls (by rw [mX7_whole4, if_neg c_1, if_neg c_2, if_neg c_14, if_pos c_15, if_pos c_16]) (lv_sub hl [0, 1, 2, 3, 4, 5] rfl)
      · refine lv_iload_n hx hb dX7_whole4_39 rfl (lv_at hl 1 rfl) ?_
        refine lv_if_eq (tgt := 47) hx hb dX7_whole4_40 (by decide) (fun c_17 => ?_) (fun c_17 => ?_)
        · refine lv_iconst (v := (0 : Int32)) hx hb dX7_whole4_47 (by decide) ?_
          refine lv_goto (tgt := 65) hx hb dX7_whole4_48 (by decide) ?_
          refine lv_istore (lv' := [(5, .int (0 : Int32)), (4, .int (mX7_size4 a0)), (3, .int (a0 &&& (-2147483648 : Int32))), (2, .int (((mX7_size4 a0) >>> ((23 : Int32) &&& 31)) - (127 : Int32))), (0, .int a0), (1, .int a1)]) hx hb dX7_whole4_65 hl (by decide) rfl (fun ls hl => ?_)
          exact cut67 (0 : Int32) ls (by rw [mX7_whole4, if_neg c_1, if_neg c_2, if_pos c_14, if_pos c_17]) (lv_sub hl [0, 1, 2, 3, 4, 5] rfl)
        · refine lv_iconst (v := (1 : Int32)) hx hb dX7_whole4_43 (by decide) ?_
          refine lv_goto (tgt := 65) hx hb dX7_whole4_44 (by decide) ?_
          refine lv_istore (lv' := [(5, .int (1 : Int32)), (4, .int (mX7_size4 a0)), (3, .int (a0 &&& (-2147483648 : Int32))), (2, .int (((mX7_size4 a0) >>> ((23 : Int32) &&& 31)) - (127 : Int32))), (0, .int a0), (1, .int a1)]) hx hb dX7_whole4_65 hl (by decide) rfl (fun ls hl => ?_)
          exact cut67 (1 : Int32) ls (by rw [mX7_whole4, if_neg c_1, if_neg c_2, if_pos c_14, if_neg c_17]) (lv_sub hl [0, 1, 2, 3, 4, 5] rfl)
    · refine lv_iload_n hx hb dX7_whole4_33 rfl (lv_at hl 3 rfl) ?_
      exact W.iret (v := a0) hx hb hr (fun t ht _ => ⟨by rw [mX7_whole4, if_neg c_1, if_pos c_2], ht⟩) (fun _ h => by cases h) dX7_whole4_34

def mX7_refuses (u : MS) (a0 : Int32) : Int32 × MS := (a0, (u.1, u.2.1, u.2.2.1, u.2.2.2.1, u.2.2.2.2.1, u.2.2.2.2.2.1, u.2.2.2.2.2.2.1, u.2.2.2.2.2.2.2.1, u.2.2.2.2.2.2.2.2.1, u.2.2.2.2.2.2.2.2.2.1, u.2.2.2.2.2.2.2.2.2.2.1, u.2.2.2.2.2.2.2.2.2.2.2.1, u.2.2.2.2.2.2.2.2.2.2.2.2.1, u.2.2.2.2.2.2.2.2.2.2.2.2.2.1, u.2.2.2.2.2.2.2.2.2.2.2.2.2.2.1, (u.2.2.2.2.2.2.2.2.2.2.2.2.2.2.2.1 + (1 : Int32)), u.2.2.2.2.2.2.2.2.2.2.2.2.2.2.2.2))
set_option maxHeartbeats 4000000 in
set_option maxRecDepth 100000 in
theorem ct_X7_refuses (l : Launch) (dC : Nat → ClassId) (dI : Nat → Nat → Nat) (bd : Nat → Nat) (cb : Nat → ClassId) (sz : Nat) (u : MS) (a0 : Int32) : Met l yX7_refuses wsX7_refuses { frames := 0, cells := 0, slots := 0, locals := 0 } (pM (dC, dI) vwCl [((cb 1), .long), ((cb 2), .int), ((cb 3), .long), ((cb 4), .boolean), ((cb 5), .int), ((cb 6), .long), ((cb 7), .int)] (WM bd cb u) sz [.ref (bd 0), .int a0]) (qM (dC, dI) vwCl (WM bd cb u) sz (some (.int (mX7_refuses u a0).1)) (WM bd cb (mX7_refuses u a0).2)) 0 0 (va_A (WM bd cb u) sz) := by
  refine Met.ofW (cc := cX7_refuses) (maxL := 2) (ret := (some .int)) (by decide) rfl ?_
  intro p e s m args below meth c s₁ B hml hv
  obtain ⟨rfl, hsz, hP, hK, hD0, hNW⟩ := hv
  subst hsz
  have hx := B.exec
  have hb := B.bytes
  have hr := B.returns
  have hts := atoms_spec (ws := wsX7_refuses) B.pre
  have hown : s.vm.findClass RX7 = some m.cls := findClass_of_methodNamed B.named
  have hlocks := B.notSynchronized
  have hin7 : ∀ w ∈ wsX70, w ∈ wsX7_refuses := by decide +kernel
  have hD : va_D (va_A (WM bd cb u) s.heap.size) (WM bd cb u) := hD0.self
  have hA : ∀ q : Nat, s.heap.size ≤ q → va_A (WM bd cb u) s.heap.size q := fun q h => Or.inr h
  have hS : va_S (va_A (WM bd cb u) s.heap.size) s.heap s.heap [] := va_S.rf
  have hl := lv_entry ([.ref (bd 0), .int a0]) (n := 2) (Nat.le_of_ble_eq_true rfl)
  rw [lg_entry_eq]
  generalize (lg_sl ([.ref (bd 0), .int a0]) ++ List.replicate (2 - (lg_sl ([.ref (bd 0), .int a0])).length) Slot.unset).toArray = ls at hl ⊢
  have hl : lv_has ls 2 [(0, .ref (bd 0)), (1, .int a0)] := hl
  refine lv_aload_n hx hb dX7_refuses_0 rfl (lv_at hl 0 rfl) ?_
  refine lv_dup hx hb dX7_refuses_1 rfl ?_
  refine va_get (D := (dC, dI)) (ci := 3) (v := .int u.2.2.2.2.2.2.2.2.2.2.2.2.2.2.2.1) (C := RX7) (T := TX7) (N := 17) hx hb hts hin7 hown hK hP 0 rfl rfl 15 (by decide) (hts (.fieldLink RX7 119 "SnapTableModel" "refused" "I") (by decide +kernel)) (fun _ h9 => h9) rfl dX7_refuses_2 ?_
  refine lv_iconst (v := (1 : Int32)) hx hb dX7_refuses_5 (by decide) ?_
  refine lv_iadd hx hb dX7_refuses_6 ?_
  refine va_put (D := (dC, dI)) (ci := 3) (v := .int (u.2.2.2.2.2.2.2.2.2.2.2.2.2.2.2.1 + (1 : Int32))) (ty := .int) (C := RX7) (T := TX7) (N := 17) hx hb hts hin7 tyX7 tyX7_ok nmX7 hown hK hP hD hS 0 rfl rfl 15 (by decide) (hts (.fieldLink RX7 119 "SnapTableModel" "refused" "I") (by decide +kernel)) (fun _ h9 => h9) rfl (by decide +kernel) rfl rfl (Nat.le_of_ble_eq_true rfl) dX7_refuses_7 (fun H locs hP hD hS => ?_)
  have hP : va_P (dC, dI) vwCl (WM bd cb (u.1, u.2.1, u.2.2.1, u.2.2.2.1, u.2.2.2.2.1, u.2.2.2.2.2.1, u.2.2.2.2.2.2.1, u.2.2.2.2.2.2.2.1, u.2.2.2.2.2.2.2.2.1, u.2.2.2.2.2.2.2.2.2.1, u.2.2.2.2.2.2.2.2.2.2.1, u.2.2.2.2.2.2.2.2.2.2.2.1, u.2.2.2.2.2.2.2.2.2.2.2.2.1, u.2.2.2.2.2.2.2.2.2.2.2.2.2.1, u.2.2.2.2.2.2.2.2.2.2.2.2.2.2.1, (u.2.2.2.2.2.2.2.2.2.2.2.2.2.2.2.1 + (1 : Int32)), u.2.2.2.2.2.2.2.2.2.2.2.2.2.2.2.2)) H := hP
  have hD : va_D (va_A (WM bd cb u) s.heap.size) (WM bd cb (u.1, u.2.1, u.2.2.1, u.2.2.2.1, u.2.2.2.2.1, u.2.2.2.2.2.1, u.2.2.2.2.2.2.1, u.2.2.2.2.2.2.2.1, u.2.2.2.2.2.2.2.2.1, u.2.2.2.2.2.2.2.2.2.1, u.2.2.2.2.2.2.2.2.2.2.1, u.2.2.2.2.2.2.2.2.2.2.2.1, u.2.2.2.2.2.2.2.2.2.2.2.2.1, u.2.2.2.2.2.2.2.2.2.2.2.2.2.1, u.2.2.2.2.2.2.2.2.2.2.2.2.2.2.1, (u.2.2.2.2.2.2.2.2.2.2.2.2.2.2.2.1 + (1 : Int32)), u.2.2.2.2.2.2.2.2.2.2.2.2.2.2.2.2)) := hD
  refine lv_iload_n hx hb dX7_refuses_10 rfl (lv_at hl 1 rfl) ?_
  have he : mX7_refuses u a0 = (a0, (u.1, u.2.1, u.2.2.1, u.2.2.2.1, u.2.2.2.2.1, u.2.2.2.2.2.1, u.2.2.2.2.2.2.1, u.2.2.2.2.2.2.2.1, u.2.2.2.2.2.2.2.2.1, u.2.2.2.2.2.2.2.2.2.1, u.2.2.2.2.2.2.2.2.2.2.1, u.2.2.2.2.2.2.2.2.2.2.2.1, u.2.2.2.2.2.2.2.2.2.2.2.2.1, u.2.2.2.2.2.2.2.2.2.2.2.2.2.1, u.2.2.2.2.2.2.2.2.2.2.2.2.2.2.1, (u.2.2.2.2.2.2.2.2.2.2.2.2.2.2.2.1 + (1 : Int32)), u.2.2.2.2.2.2.2.2.2.2.2.2.2.2.2.2)) := by rw [mX7_refuses]
  exact rM_i hx hb hr hlocks hP hD hS (by rw [he]) (by rw [he]) dX7_refuses_11

def mX7_does (u : MS) : Int32 × MS := ((0 : Int32), (u.1, u.2.1, u.2.2.1, u.2.2.2.1, u.2.2.2.2.1, u.2.2.2.2.2.1, u.2.2.2.2.2.2.1, u.2.2.2.2.2.2.2.1, u.2.2.2.2.2.2.2.2.1, u.2.2.2.2.2.2.2.2.2.1, u.2.2.2.2.2.2.2.2.2.2.1, u.2.2.2.2.2.2.2.2.2.2.2.1, u.2.2.2.2.2.2.2.2.2.2.2.2.1, u.2.2.2.2.2.2.2.2.2.2.2.2.2.1, (u.2.2.2.2.2.2.2.2.2.2.2.2.2.2.1 + (1 : Int32)), u.2.2.2.2.2.2.2.2.2.2.2.2.2.2.2.1, u.2.2.2.2.2.2.2.2.2.2.2.2.2.2.2.2))
set_option maxHeartbeats 4000000 in
set_option maxRecDepth 100000 in
theorem ct_X7_does (l : Launch) (dC : Nat → ClassId) (dI : Nat → Nat → Nat) (bd : Nat → Nat) (cb : Nat → ClassId) (sz : Nat) (u : MS) : Met l yX7_does wsX7_does { frames := 0, cells := 0, slots := 0, locals := 0 } (pM (dC, dI) vwCl [((cb 1), .long), ((cb 2), .int), ((cb 3), .long), ((cb 4), .boolean), ((cb 5), .int), ((cb 6), .long), ((cb 7), .int)] (WM bd cb u) sz [.ref (bd 0)]) (qM (dC, dI) vwCl (WM bd cb u) sz (some (.int (mX7_does u).1)) (WM bd cb (mX7_does u).2)) 0 0 (va_A (WM bd cb u) sz) := by
  refine Met.ofW (cc := cX7_does) (maxL := 1) (ret := (some .int)) (by decide) rfl ?_
  intro p e s m args below meth c s₁ B hml hv
  obtain ⟨rfl, hsz, hP, hK, hD0, hNW⟩ := hv
  subst hsz
  have hx := B.exec
  have hb := B.bytes
  have hr := B.returns
  have hts := atoms_spec (ws := wsX7_does) B.pre
  have hown : s.vm.findClass RX7 = some m.cls := findClass_of_methodNamed B.named
  have hlocks := B.notSynchronized
  have hin7 : ∀ w ∈ wsX70, w ∈ wsX7_does := by decide +kernel
  have hD : va_D (va_A (WM bd cb u) s.heap.size) (WM bd cb u) := hD0.self
  have hA : ∀ q : Nat, s.heap.size ≤ q → va_A (WM bd cb u) s.heap.size q := fun q h => Or.inr h
  have hS : va_S (va_A (WM bd cb u) s.heap.size) s.heap s.heap [] := va_S.rf
  have hl := lv_entry ([.ref (bd 0)]) (n := 1) (Nat.le_of_ble_eq_true rfl)
  rw [lg_entry_eq]
  generalize (lg_sl ([.ref (bd 0)]) ++ List.replicate (1 - (lg_sl ([.ref (bd 0)])).length) Slot.unset).toArray = ls at hl ⊢
  have hl : lv_has ls 1 [(0, .ref (bd 0))] := hl
  refine lv_aload_n hx hb dX7_does_0 rfl (lv_at hl 0 rfl) ?_
  refine lv_dup hx hb dX7_does_1 rfl ?_
  refine va_get (D := (dC, dI)) (ci := 3) (v := .int u.2.2.2.2.2.2.2.2.2.2.2.2.2.2.1) (C := RX7) (T := TX7) (N := 17) hx hb hts hin7 hown hK hP 0 rfl rfl 14 (by decide) (hts (.fieldLink RX7 122 "SnapTableModel" "done" "I") (by decide +kernel)) (fun _ h9 => h9) rfl dX7_does_2 ?_
  refine lv_iconst (v := (1 : Int32)) hx hb dX7_does_5 (by decide) ?_
  refine lv_iadd hx hb dX7_does_6 ?_
  refine va_put (D := (dC, dI)) (ci := 3) (v := .int (u.2.2.2.2.2.2.2.2.2.2.2.2.2.2.1 + (1 : Int32))) (ty := .int) (C := RX7) (T := TX7) (N := 17) hx hb hts hin7 tyX7 tyX7_ok nmX7 hown hK hP hD hS 0 rfl rfl 14 (by decide) (hts (.fieldLink RX7 122 "SnapTableModel" "done" "I") (by decide +kernel)) (fun _ h9 => h9) rfl (by decide +kernel) rfl rfl (Nat.le_of_ble_eq_true rfl) dX7_does_7 (fun H locs hP hD hS => ?_)
  have hP : va_P (dC, dI) vwCl (WM bd cb (u.1, u.2.1, u.2.2.1, u.2.2.2.1, u.2.2.2.2.1, u.2.2.2.2.2.1, u.2.2.2.2.2.2.1, u.2.2.2.2.2.2.2.1, u.2.2.2.2.2.2.2.2.1, u.2.2.2.2.2.2.2.2.2.1, u.2.2.2.2.2.2.2.2.2.2.1, u.2.2.2.2.2.2.2.2.2.2.2.1, u.2.2.2.2.2.2.2.2.2.2.2.2.1, u.2.2.2.2.2.2.2.2.2.2.2.2.2.1, (u.2.2.2.2.2.2.2.2.2.2.2.2.2.2.1 + (1 : Int32)), u.2.2.2.2.2.2.2.2.2.2.2.2.2.2.2.1, u.2.2.2.2.2.2.2.2.2.2.2.2.2.2.2.2)) H := hP
  have hD : va_D (va_A (WM bd cb u) s.heap.size) (WM bd cb (u.1, u.2.1, u.2.2.1, u.2.2.2.1, u.2.2.2.2.1, u.2.2.2.2.2.1, u.2.2.2.2.2.2.1, u.2.2.2.2.2.2.2.1, u.2.2.2.2.2.2.2.2.1, u.2.2.2.2.2.2.2.2.2.1, u.2.2.2.2.2.2.2.2.2.2.1, u.2.2.2.2.2.2.2.2.2.2.2.1, u.2.2.2.2.2.2.2.2.2.2.2.2.1, u.2.2.2.2.2.2.2.2.2.2.2.2.2.1, (u.2.2.2.2.2.2.2.2.2.2.2.2.2.2.1 + (1 : Int32)), u.2.2.2.2.2.2.2.2.2.2.2.2.2.2.2.1, u.2.2.2.2.2.2.2.2.2.2.2.2.2.2.2.2)) := hD
  refine lv_iconst (v := (0 : Int32)) hx hb dX7_does_10 (by decide) ?_
  have he : mX7_does u = ((0 : Int32), (u.1, u.2.1, u.2.2.1, u.2.2.2.1, u.2.2.2.2.1, u.2.2.2.2.2.1, u.2.2.2.2.2.2.1, u.2.2.2.2.2.2.2.1, u.2.2.2.2.2.2.2.2.1, u.2.2.2.2.2.2.2.2.2.1, u.2.2.2.2.2.2.2.2.2.2.1, u.2.2.2.2.2.2.2.2.2.2.2.1, u.2.2.2.2.2.2.2.2.2.2.2.2.1, u.2.2.2.2.2.2.2.2.2.2.2.2.2.1, (u.2.2.2.2.2.2.2.2.2.2.2.2.2.2.1 + (1 : Int32)), u.2.2.2.2.2.2.2.2.2.2.2.2.2.2.2.1, u.2.2.2.2.2.2.2.2.2.2.2.2.2.2.2.2)) := by rw [mX7_does]
  exact rM_i hx hb hr hlocks hP hD hS (by rw [he]) (by rw [he]) dX7_does_11

def mX7_walled (u : MS) (a0 : Int64) : Int64 := (mX7_greater (mX7_lesser a0 u.2.2.2.1) u.2.2.1)
set_option maxHeartbeats 4000000 in
set_option maxRecDepth 100000 in
theorem ct_X7_walled (l : Launch) (dC : Nat → ClassId) (dI : Nat → Nat → Nat) (bd : Nat → Nat) (cb : Nat → ClassId) (u : MS) (a0 : Int64) : Met l yX7_walled wsX7_walled { frames := 3, cells := 0, slots := 0, locals := 65 } (pR (dC, dI) vwCl [((cb 1), .long), ((cb 2), .int), ((cb 3), .long), ((cb 4), .boolean), ((cb 5), .int), ((cb 6), .long), ((cb 7), .int)] (WM bd cb u) [.ref (bd 0), .long a0]) (k2_QcV (.long (mX7_walled u a0))) 0 0 (fun _ => False) := by
  refine Met.ofW (cc := cX7_walled) (maxL := 3) (ret := (some .long)) (by decide) rfl ?_
  intro p e s m args below meth c s₁ B hml hv
  obtain ⟨rfl, hP, hK, hNW⟩ := hv
  have hx := B.exec
  have hb := B.bytes
  have hr := B.returns
  have hts := atoms_spec (ws := wsX7_walled) B.pre
  have hown : s.vm.findClass RX7 = some m.cls := findClass_of_methodNamed B.named
  have hlocks := B.notSynchronized
  have hin7 : ∀ w ∈ wsX70, w ∈ wsX7_walled := by decide +kernel
  have hl := lv_entry ([.ref (bd 0), .long a0]) (n := 3) (Nat.le_of_ble_eq_true rfl)
  rw [lg_entry_eq]
  generalize (lg_sl ([.ref (bd 0), .long a0]) ++ List.replicate (3 - (lg_sl ([.ref (bd 0), .long a0])).length) Slot.unset).toArray = ls at hl ⊢
  have hl : lv_has ls 3 [(0, .ref (bd 0)), (1, .long a0)] := hl
  refine lv_lload_n hx hb dX7_walled_0 rfl (lv_at hl 1 rfl) ?_
  refine lv_aload_n hx hb dX7_walled_1 rfl (lv_at hl 0 rfl) ?_
  refine va_get (D := (dC, dI)) (ci := 3) (v := .long u.2.2.2.1) (C := RX7) (T := TX7) (N := 17) hx hb hts hin7 hown hK hP 0 rfl rfl 3 (by decide) (hts (.fieldLink RX7 25 "SnapTableModel" "right" "J") (by decide +kernel)) (fun _ h9 => h9) rfl dX7_walled_2 ?_
  refine hc_S (As := [.long a0, .long u.2.2.2.1]) (rest := []) ⟨hx, hb, hml, hown, hts⟩ (ct_X7_lesser l a0 u.2.2.2.1) (va_cwS 2 hts gX7_walled_X7_lesser rfl rfl rfl (by decide +kernel) ⟨Nat.le_of_ble_eq_true rfl, Nat.le_of_ble_eq_true rfl⟩) rfl hl.1 rfl (Nat.le_of_ble_eq_true rfl) dX7_walled_5 ⟨Nat.le_of_ble_eq_true rfl, Nat.le_of_ble_eq_true rfl⟩ ?_
  refine lv_aload_n hx hb dX7_walled_8 rfl (lv_at hl 0 rfl) ?_
  refine va_get (D := (dC, dI)) (ci := 3) (v := .long u.2.2.1) (C := RX7) (T := TX7) (N := 17) hx hb hts hin7 hown hK hP 0 rfl rfl 2 (by decide) (hts (.fieldLink RX7 19 "SnapTableModel" "left" "J") (by decide +kernel)) (fun _ h9 => h9) rfl dX7_walled_9 ?_
  refine hc_S (As := [.long (mX7_lesser a0 u.2.2.2.1), .long u.2.2.1]) (rest := []) ⟨hx, hb, hml, hown, hts⟩ (ct_X7_greater l (mX7_lesser a0 u.2.2.2.1) u.2.2.1) (va_cwS 2 hts gX7_walled_X7_greater rfl rfl rfl (by decide +kernel) ⟨Nat.le_of_ble_eq_true rfl, Nat.le_of_ble_eq_true rfl⟩) rfl hl.1 rfl (Nat.le_of_ble_eq_true rfl) dX7_walled_12 ⟨Nat.le_of_ble_eq_true rfl, Nat.le_of_ble_eq_true rfl⟩ ?_
  exact W.lret (v := (mX7_greater (mX7_lesser a0 u.2.2.2.1) u.2.2.1)) hx hb hr (fun t ht _ => ⟨by rw [mX7_walled], ht⟩) (fun _ h => by cases h) dX7_walled_15

def mX7_railed (u : MS) (a0 : Int32) : Int32 := (mX7_greater4 (mX7_lesser4 a0 u.2.2.2.2.2.2.1) u.2.2.2.2.2.1)
set_option maxHeartbeats 4000000 in
set_option maxRecDepth 100000 in
theorem ct_X7_railed (l : Launch) (dC : Nat → ClassId) (dI : Nat → Nat → Nat) (bd : Nat → Nat) (cb : Nat → ClassId) (u : MS) (a0 : Int32) : Met l yX7_railed wsX7_railed { frames := 3, cells := 0, slots := 0, locals := 61 } (pR (dC, dI) vwCl [((cb 1), .long), ((cb 2), .int), ((cb 3), .long), ((cb 4), .boolean), ((cb 5), .int), ((cb 6), .long), ((cb 7), .int)] (WM bd cb u) [.ref (bd 0), .int a0]) (k2_QcV (.int (mX7_railed u a0))) 0 0 (fun _ => False) := by
  refine Met.ofW (cc := cX7_railed) (maxL := 2) (ret := (some .int)) (by decide) rfl ?_
  intro p e s m args below meth c s₁ B hml hv
  obtain ⟨rfl, hP, hK, hNW⟩ := hv
  have hx := B.exec
  have hb := B.bytes
  have hr := B.returns
  have hts := atoms_spec (ws := wsX7_railed) B.pre
  have hown : s.vm.findClass RX7 = some m.cls := findClass_of_methodNamed B.named
  have hlocks := B.notSynchronized
  have hin7 : ∀ w ∈ wsX70, w ∈ wsX7_railed := by decide +kernel
  have hl := lv_entry ([.ref (bd 0), .int a0]) (n := 2) (Nat.le_of_ble_eq_true rfl)
  rw [lg_entry_eq]
  generalize (lg_sl ([.ref (bd 0), .int a0]) ++ List.replicate (2 - (lg_sl ([.ref (bd 0), .int a0])).length) Slot.unset).toArray = ls at hl ⊢
  have hl : lv_has ls 2 [(0, .ref (bd 0)), (1, .int a0)] := hl
  refine lv_iload_n hx hb dX7_railed_0 rfl (lv_at hl 1 rfl) ?_
  refine lv_aload_n hx hb dX7_railed_1 rfl (lv_at hl 0 rfl) ?_
  refine va_get (D := (dC, dI)) (ci := 3) (v := .int u.2.2.2.2.2.2.1) (C := RX7) (T := TX7) (N := 17) hx hb hts hin7 hown hK hP 0 rfl rfl 6 (by decide) (hts (.fieldLink RX7 39 "SnapTableModel" "high" "I") (by decide +kernel)) (fun _ h9 => h9) rfl dX7_railed_2 ?_
  refine hc_S (As := [.int a0, .int u.2.2.2.2.2.2.1]) (rest := []) ⟨hx, hb, hml, hown, hts⟩ (ct_X7_lesser4 l a0 u.2.2.2.2.2.2.1) (va_cwS 2 hts gX7_railed_X7_lesser4 rfl rfl rfl (by decide +kernel) ⟨Nat.le_of_ble_eq_true rfl, Nat.le_of_ble_eq_true rfl⟩) rfl hl.1 rfl (Nat.le_of_ble_eq_true rfl) dX7_railed_5 ⟨Nat.le_of_ble_eq_true rfl, Nat.le_of_ble_eq_true rfl⟩ ?_
  refine lv_aload_n hx hb dX7_railed_8 rfl (lv_at hl 0 rfl) ?_
  refine va_get (D := (dC, dI)) (ci := 3) (v := .int u.2.2.2.2.2.1) (C := RX7) (T := TX7) (N := 17) hx hb hts hin7 hown hK hP 0 rfl rfl 5 (by decide) (hts (.fieldLink RX7 34 "SnapTableModel" "low" "I") (by decide +kernel)) (fun _ h9 => h9) rfl dX7_railed_9 ?_
  refine hc_S (As := [.int (mX7_lesser4 a0 u.2.2.2.2.2.2.1), .int u.2.2.2.2.2.1]) (rest := []) ⟨hx, hb, hml, hown, hts⟩ (ct_X7_greater4 l (mX7_lesser4 a0 u.2.2.2.2.2.2.1) u.2.2.2.2.2.1) (va_cwS 2 hts gX7_railed_X7_greater4 rfl rfl rfl (by decide +kernel) ⟨Nat.le_of_ble_eq_true rfl, Nat.le_of_ble_eq_true rfl⟩) rfl hl.1 rfl (Nat.le_of_ble_eq_true rfl) dX7_railed_12 ⟨Nat.le_of_ble_eq_true rfl, Nat.le_of_ble_eq_true rfl⟩ ?_
  exact W.iret (v := (mX7_greater4 (mX7_lesser4 a0 u.2.2.2.2.2.2.1) u.2.2.2.2.2.1)) hx hb hr (fun t ht _ => ⟨by rw [mX7_railed], ht⟩) (fun _ h => by cases h) dX7_railed_15

def mX7_keeps_L (u : MS) (a0 : Int32) : Nat → Int32 → MS → MS
  | 0, _, _ => default
  | n + 1, i, v => (if (16 : Int32) ≤ i then (v.1, v.2.1, v.2.2.1, v.2.2.2.1, v.2.2.2.2.1, v.2.2.2.2.2.1, v.2.2.2.2.2.2.1, v.2.2.2.2.2.2.2.1, v.2.2.2.2.2.2.2.2.1, v.2.2.2.2.2.2.2.2.2.1, v.2.2.2.2.2.2.2.2.2.2.1, v.2.2.2.2.2.2.2.2.2.2.2.1, v.2.2.2.2.2.2.2.2.2.2.2.2.1, (16 : Int32), v.2.2.2.2.2.2.2.2.2.2.2.2.2.2.1, v.2.2.2.2.2.2.2.2.2.2.2.2.2.2.2.1, v.2.2.2.2.2.2.2.2.2.2.2.2.2.2.2.2) else (mX7_keeps_L u a0 n (i + 1) (v.1, v.2.1, v.2.2.1, v.2.2.2.1, v.2.2.2.2.1, v.2.2.2.2.2.1, v.2.2.2.2.2.2.1, v.2.2.2.2.2.2.2.1, v.2.2.2.2.2.2.2.2.1, v.2.2.2.2.2.2.2.2.2.1, (upd v.2.2.2.2.2.2.2.2.2.2.1 i.toNatClampNeg (v.2.2.2.2.2.2.2.2.2.2.1 (i + (1 : Int32)).toNatClampNeg)), (vp_updL v.2.2.2.2.2.2.2.2.2.2.2.1 i.toNatClampNeg (v.2.2.2.2.2.2.2.2.2.2.2.1 (i + (1 : Int32)).toNatClampNeg)), (upd v.2.2.2.2.2.2.2.2.2.2.2.2.1 i.toNatClampNeg (v.2.2.2.2.2.2.2.2.2.2.2.2.1 (i + (1 : Int32)).toNatClampNeg)), v.2.2.2.2.2.2.2.2.2.2.2.2.2.1, v.2.2.2.2.2.2.2.2.2.2.2.2.2.2.1, v.2.2.2.2.2.2.2.2.2.2.2.2.2.2.2.1, v.2.2.2.2.2.2.2.2.2.2.2.2.2.2.2.2)))
def mX7_keeps (u : MS) (a0 : Int32) : MS := (if (16 : Int32) < (u.2.2.2.2.2.2.2.2.2.2.2.2.2.1 + (1 : Int32)) then (mX7_keeps_L u a0 17 (0 : Int32) (u.1, u.2.1, u.2.2.1, u.2.2.2.1, u.2.2.2.2.1, u.2.2.2.2.2.1, u.2.2.2.2.2.2.1, u.2.2.2.2.2.2.2.1, u.2.2.2.2.2.2.2.2.1, u.2.2.2.2.2.2.2.2.2.1, (upd u.2.2.2.2.2.2.2.2.2.2.1 u.2.2.2.2.2.2.2.2.2.2.2.2.2.1.toNatClampNeg a0), (vp_updL u.2.2.2.2.2.2.2.2.2.2.2.1 u.2.2.2.2.2.2.2.2.2.2.2.2.2.1.toNatClampNeg (u.1 a0.toNatClampNeg)), (upd u.2.2.2.2.2.2.2.2.2.2.2.2.1 u.2.2.2.2.2.2.2.2.2.2.2.2.2.1.toNatClampNeg (u.2.1 a0.toNatClampNeg)), (u.2.2.2.2.2.2.2.2.2.2.2.2.2.1 + (1 : Int32)), u.2.2.2.2.2.2.2.2.2.2.2.2.2.2.1, u.2.2.2.2.2.2.2.2.2.2.2.2.2.2.2.1, u.2.2.2.2.2.2.2.2.2.2.2.2.2.2.2.2)) else (u.1, u.2.1, u.2.2.1, u.2.2.2.1, u.2.2.2.2.1, u.2.2.2.2.2.1, u.2.2.2.2.2.2.1, u.2.2.2.2.2.2.2.1, u.2.2.2.2.2.2.2.2.1, u.2.2.2.2.2.2.2.2.2.1, (upd u.2.2.2.2.2.2.2.2.2.2.1 u.2.2.2.2.2.2.2.2.2.2.2.2.2.1.toNatClampNeg a0), (vp_updL u.2.2.2.2.2.2.2.2.2.2.2.1 u.2.2.2.2.2.2.2.2.2.2.2.2.2.1.toNatClampNeg (u.1 a0.toNatClampNeg)), (upd u.2.2.2.2.2.2.2.2.2.2.2.2.1 u.2.2.2.2.2.2.2.2.2.2.2.2.2.1.toNatClampNeg (u.2.1 a0.toNatClampNeg)), (u.2.2.2.2.2.2.2.2.2.2.2.2.2.1 + (1 : Int32)), u.2.2.2.2.2.2.2.2.2.2.2.2.2.2.1, u.2.2.2.2.2.2.2.2.2.2.2.2.2.2.2.1, u.2.2.2.2.2.2.2.2.2.2.2.2.2.2.2.2))
set_option maxHeartbeats 4000000 in
set_option maxRecDepth 100000 in
theorem ct_X7_keeps (l : Launch) (dC : Nat → ClassId) (dI : Nat → Nat → Nat) (bd : Nat → Nat) (cb : Nat → ClassId) (sz : Nat) (u : MS) (a0 : Int32) (hk : vp_in a0 8) (ht : vp_in u.2.2.2.2.2.2.2.2.2.2.2.2.2.1 17) : Met l yX7_keeps wsX7_keeps { frames := 0, cells := 0, slots := 0, locals := 0 } (pM (dC, dI) vwCl [((cb 1), .long), ((cb 2), .int), ((cb 3), .long), ((cb 4), .boolean), ((cb 5), .int), ((cb 6), .long), ((cb 7), .int)] (WM bd cb u) sz [.ref (bd 0), .int a0]) (qM (dC, dI) vwCl (WM bd cb u) sz none (WM bd cb (mX7_keeps u a0))) 0 0 (va_A (WM bd cb u) sz) := by
  refine Met.ofW (cc := cX7_keeps) (maxL := 3) (ret := none) (by decide) rfl ?_
  intro p e s m args below meth c s₁ B hml hv
  obtain ⟨rfl, hsz, hP, hK, hD0, hNW⟩ := hv
  subst hsz
  have hx := B.exec
  have hb := B.bytes
  have hr := B.returns
  have hts := atoms_spec (ws := wsX7_keeps) B.pre
  have hown : s.vm.findClass RX7 = some m.cls := findClass_of_methodNamed B.named
  have hlocks := B.notSynchronized
  have hin7 : ∀ w ∈ wsX70, w ∈ wsX7_keeps := by decide +kernel
  have hD : va_D (va_A (WM bd cb u) s.heap.size) (WM bd cb u) := hD0.self
  have hA : ∀ q : Nat, s.heap.size ≤ q → va_A (WM bd cb u) s.heap.size q := fun q h => Or.inr h
  have hS : va_S (va_A (WM bd cb u) s.heap.size) s.heap s.heap [] := va_S.rf
  have hl := lv_entry ([.ref (bd 0), .int a0]) (n := 3) (Nat.le_of_ble_eq_true rfl)
  rw [lg_entry_eq]
  generalize (lg_sl ([.ref (bd 0), .int a0]) ++ List.replicate (3 - (lg_sl ([.ref (bd 0), .int a0])).length) Slot.unset).toArray = ls at hl ⊢
  have hl : lv_has ls 3 [(0, .ref (bd 0)), (1, .int a0)] := hl
  refine lv_aload_n hx hb dX7_keeps_0 rfl (lv_at hl 0 rfl) ?_
  refine va_get (D := (dC, dI)) (ci := 3) (v := .ref (bd 5)) (C := RX7) (T := TX7) (N := 17) hx hb hts hin7 hown hK hP 0 rfl rfl 10 (by decide) (hts (.fieldLink RX7 53 "SnapTableModel" "trailPoint" "[I") (by decide +kernel)) (fun _ h9 => h9) rfl dX7_keeps_1 ?_
  refine lv_aload_n hx hb dX7_keeps_4 rfl (lv_at hl 0 rfl) ?_
  refine va_get (D := (dC, dI)) (ci := 3) (v := .int u.2.2.2.2.2.2.2.2.2.2.2.2.2.1) (C := RX7) (T := TX7) (N := 17) hx hb hts hin7 hown hK hP 0 rfl rfl 13 (by decide) (hts (.fieldLink RX7 139 "SnapTableModel" "trail" "I") (by decide +kernel)) (fun _ h9 => h9) rfl dX7_keeps_5 ?_
  refine lv_iload_n hx hb dX7_keeps_8 rfl (lv_at hl 1 rfl) ?_
  refine va_iast hx hb hK hP hD hS 5 4 rfl rfl (by first | with_reducible assumption | with_reducible exact pt_in (by with_reducible assumption) | with_reducible exact ptm_in (by with_reducible assumption) | exact LU.vin (B := 8) hm (by decide) (by with_reducible assumption) (by decide) | exact LU.vin (B := 4) hm (by decide) (by with_reducible assumption) (by decide) | exact LU.vin (B := 16) hm (by decide) (by with_reducible assumption) (by decide) | exact vp_in_nI (n := 0) (by decide) (by decide) | with_reducible exact gdm_in (by with_reducible assumption) (by with_reducible assumption) | with_reducible exact gd_in (by with_reducible assumption) (by with_reducible assumption)) dX7_keeps_9 (fun H locs hP hD hS => ?_)
  have hP : va_P (dC, dI) vwCl (WM bd cb (u.1, u.2.1, u.2.2.1, u.2.2.2.1, u.2.2.2.2.1, u.2.2.2.2.2.1, u.2.2.2.2.2.2.1, u.2.2.2.2.2.2.2.1, u.2.2.2.2.2.2.2.2.1, u.2.2.2.2.2.2.2.2.2.1, (upd u.2.2.2.2.2.2.2.2.2.2.1 u.2.2.2.2.2.2.2.2.2.2.2.2.2.1.toNatClampNeg a0), u.2.2.2.2.2.2.2.2.2.2.2.1, u.2.2.2.2.2.2.2.2.2.2.2.2.1, u.2.2.2.2.2.2.2.2.2.2.2.2.2.1, u.2.2.2.2.2.2.2.2.2.2.2.2.2.2.1, u.2.2.2.2.2.2.2.2.2.2.2.2.2.2.2.1, u.2.2.2.2.2.2.2.2.2.2.2.2.2.2.2.2)) H := hP
  have hD : va_D (va_A (WM bd cb u) s.heap.size) (WM bd cb (u.1, u.2.1, u.2.2.1, u.2.2.2.1, u.2.2.2.2.1, u.2.2.2.2.2.1, u.2.2.2.2.2.2.1, u.2.2.2.2.2.2.2.1, u.2.2.2.2.2.2.2.2.1, u.2.2.2.2.2.2.2.2.2.1, (upd u.2.2.2.2.2.2.2.2.2.2.1 u.2.2.2.2.2.2.2.2.2.2.2.2.2.1.toNatClampNeg a0), u.2.2.2.2.2.2.2.2.2.2.2.1, u.2.2.2.2.2.2.2.2.2.2.2.2.1, u.2.2.2.2.2.2.2.2.2.2.2.2.2.1, u.2.2.2.2.2.2.2.2.2.2.2.2.2.2.1, u.2.2.2.2.2.2.2.2.2.2.2.2.2.2.2.1, u.2.2.2.2.2.2.2.2.2.2.2.2.2.2.2.2)) := hD
  refine lv_aload_n hx hb dX7_keeps_10 rfl (lv_at hl 0 rfl) ?_
  refine va_get (D := (dC, dI)) (ci := 3) (v := .ref (bd 6)) (C := RX7) (T := TX7) (N := 17) hx hb hts hin7 hown hK hP 0 rfl rfl 11 (by decide) (hts (.fieldLink RX7 56 "SnapTableModel" "trailX" "[J") (by decide +kernel)) (fun _ h9 => h9) rfl dX7_keeps_11 ?_
  refine lv_aload_n hx hb dX7_keeps_14 rfl (lv_at hl 0 rfl) ?_
  refine va_get (D := (dC, dI)) (ci := 3) (v := .int u.2.2.2.2.2.2.2.2.2.2.2.2.2.1) (C := RX7) (T := TX7) (N := 17) hx hb hts hin7 hown hK hP 0 rfl rfl 13 (by decide) (hts (.fieldLink RX7 139 "SnapTableModel" "trail" "I") (by decide +kernel)) (fun _ h9 => h9) rfl dX7_keeps_15 ?_
  refine lv_aload_n hx hb dX7_keeps_18 rfl (lv_at hl 0 rfl) ?_
  refine va_get (D := (dC, dI)) (ci := 3) (v := .ref (bd 1)) (C := RX7) (T := TX7) (N := 17) hx hb hts hin7 hown hK hP 0 rfl rfl 0 (by decide) (hts (.fieldLink RX7 7 "SnapTableModel" "xs" "[J") (by decide +kernel)) (fun _ h9 => h9) rfl dX7_keeps_19 ?_
  refine lv_iload_n hx hb dX7_keeps_22 rfl (lv_at hl 1 rfl) ?_
  refine va_lald hx hb hK hP 1 0 rfl rfl (by first | with_reducible assumption | with_reducible exact pt_in (by with_reducible assumption) | with_reducible exact ptm_in (by with_reducible assumption) | exact LU.vin (B := 8) hm (by decide) (by with_reducible assumption) (by decide) | exact LU.vin (B := 4) hm (by decide) (by with_reducible assumption) (by decide) | exact LU.vin (B := 16) hm (by decide) (by with_reducible assumption) (by decide) | exact vp_in_nI (n := 0) (by decide) (by decide) | with_reducible exact gdm_in (by with_reducible assumption) (by with_reducible assumption) | with_reducible exact gd_in (by with_reducible assumption) (by with_reducible assumption)) dX7_keeps_23 ?_
  refine va_last hx hb hK hP hD hS 6 5 rfl rfl (by first | with_reducible assumption | with_reducible exact pt_in (by with_reducible assumption) | with_reducible exact ptm_in (by with_reducible assumption) | exact LU.vin (B := 8) hm (by decide) (by with_reducible assumption) (by decide) | exact LU.vin (B := 4) hm (by decide) (by with_reducible assumption) (by decide) | exact LU.vin (B := 16) hm (by decide) (by with_reducible assumption) (by decide) | exact vp_in_nI (n := 0) (by decide) (by decide) | with_reducible exact gdm_in (by with_reducible assumption) (by with_reducible assumption) | with_reducible exact gd_in (by with_reducible assumption) (by with_reducible assumption)) dX7_keeps_24 (fun H locs hP hD hS => ?_)
  have hP : va_P (dC, dI) vwCl (WM bd cb (u.1, u.2.1, u.2.2.1, u.2.2.2.1, u.2.2.2.2.1, u.2.2.2.2.2.1, u.2.2.2.2.2.2.1, u.2.2.2.2.2.2.2.1, u.2.2.2.2.2.2.2.2.1, u.2.2.2.2.2.2.2.2.2.1, (upd u.2.2.2.2.2.2.2.2.2.2.1 u.2.2.2.2.2.2.2.2.2.2.2.2.2.1.toNatClampNeg a0), (vp_updL u.2.2.2.2.2.2.2.2.2.2.2.1 u.2.2.2.2.2.2.2.2.2.2.2.2.2.1.toNatClampNeg (u.1 a0.toNatClampNeg)), u.2.2.2.2.2.2.2.2.2.2.2.2.1, u.2.2.2.2.2.2.2.2.2.2.2.2.2.1, u.2.2.2.2.2.2.2.2.2.2.2.2.2.2.1, u.2.2.2.2.2.2.2.2.2.2.2.2.2.2.2.1, u.2.2.2.2.2.2.2.2.2.2.2.2.2.2.2.2)) H := hP
  have hD : va_D (va_A (WM bd cb u) s.heap.size) (WM bd cb (u.1, u.2.1, u.2.2.1, u.2.2.2.1, u.2.2.2.2.1, u.2.2.2.2.2.1, u.2.2.2.2.2.2.1, u.2.2.2.2.2.2.2.1, u.2.2.2.2.2.2.2.2.1, u.2.2.2.2.2.2.2.2.2.1, (upd u.2.2.2.2.2.2.2.2.2.2.1 u.2.2.2.2.2.2.2.2.2.2.2.2.2.1.toNatClampNeg a0), (vp_updL u.2.2.2.2.2.2.2.2.2.2.2.1 u.2.2.2.2.2.2.2.2.2.2.2.2.2.1.toNatClampNeg (u.1 a0.toNatClampNeg)), u.2.2.2.2.2.2.2.2.2.2.2.2.1, u.2.2.2.2.2.2.2.2.2.2.2.2.2.1, u.2.2.2.2.2.2.2.2.2.2.2.2.2.2.1, u.2.2.2.2.2.2.2.2.2.2.2.2.2.2.2.1, u.2.2.2.2.2.2.2.2.2.2.2.2.2.2.2.2)) := hD
  refine lv_aload_n hx hb dX7_keeps_25 rfl (lv_at hl 0 rfl) ?_
  refine va_get (D := (dC, dI)) (ci := 3) (v := .ref (bd 7)) (C := RX7) (T := TX7) (N := 17) hx hb hts hin7 hown hK hP 0 rfl rfl 12 (by decide) (hts (.fieldLink RX7 59 "SnapTableModel" "trailY" "[I") (by decide +kernel)) (fun _ h9 => h9) rfl dX7_keeps_26 ?_
  refine lv_aload_n hx hb dX7_keeps_29 rfl (lv_at hl 0 rfl) ?_
  refine va_get (D := (dC, dI)) (ci := 3) (v := .int u.2.2.2.2.2.2.2.2.2.2.2.2.2.1) (C := RX7) (T := TX7) (N := 17) hx hb hts hin7 hown hK hP 0 rfl rfl 13 (by decide) (hts (.fieldLink RX7 139 "SnapTableModel" "trail" "I") (by decide +kernel)) (fun _ h9 => h9) rfl dX7_keeps_30 ?_
  refine lv_aload_n hx hb dX7_keeps_33 rfl (lv_at hl 0 rfl) ?_
  refine va_get (D := (dC, dI)) (ci := 3) (v := .ref (bd 2)) (C := RX7) (T := TX7) (N := 17) hx hb hts hin7 hown hK hP 0 rfl rfl 1 (by decide) (hts (.fieldLink RX7 13 "SnapTableModel" "ys" "[I") (by decide +kernel)) (fun _ h9 => h9) rfl dX7_keeps_34 ?_
  refine lv_iload_n hx hb dX7_keeps_37 rfl (lv_at hl 1 rfl) ?_
  refine va_iald hx hb hK hP 2 1 rfl rfl (by first | with_reducible assumption | with_reducible exact pt_in (by with_reducible assumption) | with_reducible exact ptm_in (by with_reducible assumption) | exact LU.vin (B := 8) hm (by decide) (by with_reducible assumption) (by decide) | exact LU.vin (B := 4) hm (by decide) (by with_reducible assumption) (by decide) | exact LU.vin (B := 16) hm (by decide) (by with_reducible assumption) (by decide) | exact vp_in_nI (n := 0) (by decide) (by decide) | with_reducible exact gdm_in (by with_reducible assumption) (by with_reducible assumption) | with_reducible exact gd_in (by with_reducible assumption) (by with_reducible assumption)) dX7_keeps_38 ?_
  refine va_iast hx hb hK hP hD hS 7 6 rfl rfl (by first | with_reducible assumption | with_reducible exact pt_in (by with_reducible assumption) | with_reducible exact ptm_in (by with_reducible assumption) | exact LU.vin (B := 8) hm (by decide) (by with_reducible assumption) (by decide) | exact LU.vin (B := 4) hm (by decide) (by with_reducible assumption) (by decide) | exact LU.vin (B := 16) hm (by decide) (by with_reducible assumption) (by decide) | exact vp_in_nI (n := 0) (by decide) (by decide) | with_reducible exact gdm_in (by with_reducible assumption) (by with_reducible assumption) | with_reducible exact gd_in (by with_reducible assumption) (by with_reducible assumption)) dX7_keeps_39 (fun H locs hP hD hS => ?_)
  have hP : va_P (dC, dI) vwCl (WM bd cb (u.1, u.2.1, u.2.2.1, u.2.2.2.1, u.2.2.2.2.1, u.2.2.2.2.2.1, u.2.2.2.2.2.2.1, u.2.2.2.2.2.2.2.1, u.2.2.2.2.2.2.2.2.1, u.2.2.2.2.2.2.2.2.2.1, (upd u.2.2.2.2.2.2.2.2.2.2.1 u.2.2.2.2.2.2.2.2.2.2.2.2.2.1.toNatClampNeg a0), (vp_updL u.2.2.2.2.2.2.2.2.2.2.2.1 u.2.2.2.2.2.2.2.2.2.2.2.2.2.1.toNatClampNeg (u.1 a0.toNatClampNeg)), (upd u.2.2.2.2.2.2.2.2.2.2.2.2.1 u.2.2.2.2.2.2.2.2.2.2.2.2.2.1.toNatClampNeg (u.2.1 a0.toNatClampNeg)), u.2.2.2.2.2.2.2.2.2.2.2.2.2.1, u.2.2.2.2.2.2.2.2.2.2.2.2.2.2.1, u.2.2.2.2.2.2.2.2.2.2.2.2.2.2.2.1, u.2.2.2.2.2.2.2.2.2.2.2.2.2.2.2.2)) H := hP
  have hD : va_D (va_A (WM bd cb u) s.heap.size) (WM bd cb (u.1, u.2.1, u.2.2.1, u.2.2.2.1, u.2.2.2.2.1, u.2.2.2.2.2.1, u.2.2.2.2.2.2.1, u.2.2.2.2.2.2.2.1, u.2.2.2.2.2.2.2.2.1, u.2.2.2.2.2.2.2.2.2.1, (upd u.2.2.2.2.2.2.2.2.2.2.1 u.2.2.2.2.2.2.2.2.2.2.2.2.2.1.toNatClampNeg a0), (vp_updL u.2.2.2.2.2.2.2.2.2.2.2.1 u.2.2.2.2.2.2.2.2.2.2.2.2.2.1.toNatClampNeg (u.1 a0.toNatClampNeg)), (upd u.2.2.2.2.2.2.2.2.2.2.2.2.1 u.2.2.2.2.2.2.2.2.2.2.2.2.2.1.toNatClampNeg (u.2.1 a0.toNatClampNeg)), u.2.2.2.2.2.2.2.2.2.2.2.2.2.1, u.2.2.2.2.2.2.2.2.2.2.2.2.2.2.1, u.2.2.2.2.2.2.2.2.2.2.2.2.2.2.2.1, u.2.2.2.2.2.2.2.2.2.2.2.2.2.2.2.2)) := hD
  refine lv_aload_n hx hb dX7_keeps_40 rfl (lv_at hl 0 rfl) ?_
  refine lv_dup hx hb dX7_keeps_41 rfl ?_
  refine va_get (D := (dC, dI)) (ci := 3) (v := .int u.2.2.2.2.2.2.2.2.2.2.2.2.2.1) (C := RX7) (T := TX7) (N := 17) hx hb hts hin7 hown hK hP 0 rfl rfl 13 (by decide) (hts (.fieldLink RX7 139 "SnapTableModel" "trail" "I") (by decide +kernel)) (fun _ h9 => h9) rfl dX7_keeps_42 ?_
  refine lv_iconst (v := (1 : Int32)) hx hb dX7_keeps_45 (by decide) ?_
  refine lv_iadd hx hb dX7_keeps_46 ?_
  refine va_put (D := (dC, dI)) (ci := 3) (v := .int (u.2.2.2.2.2.2.2.2.2.2.2.2.2.1 + (1 : Int32))) (ty := .int) (C := RX7) (T := TX7) (N := 17) hx hb hts hin7 tyX7 tyX7_ok nmX7 hown hK hP hD hS 0 rfl rfl 13 (by decide) (hts (.fieldLink RX7 139 "SnapTableModel" "trail" "I") (by decide +kernel)) (fun _ h9 => h9) rfl (by decide +kernel) rfl rfl (Nat.le_of_ble_eq_true rfl) dX7_keeps_47 (fun H locs hP hD hS => ?_)
  have hP : va_P (dC, dI) vwCl (WM bd cb (u.1, u.2.1, u.2.2.1, u.2.2.2.1, u.2.2.2.2.1, u.2.2.2.2.2.1, u.2.2.2.2.2.2.1, u.2.2.2.2.2.2.2.1, u.2.2.2.2.2.2.2.2.1, u.2.2.2.2.2.2.2.2.2.1, (upd u.2.2.2.2.2.2.2.2.2.2.1 u.2.2.2.2.2.2.2.2.2.2.2.2.2.1.toNatClampNeg a0), (vp_updL u.2.2.2.2.2.2.2.2.2.2.2.1 u.2.2.2.2.2.2.2.2.2.2.2.2.2.1.toNatClampNeg (u.1 a0.toNatClampNeg)), (upd u.2.2.2.2.2.2.2.2.2.2.2.2.1 u.2.2.2.2.2.2.2.2.2.2.2.2.2.1.toNatClampNeg (u.2.1 a0.toNatClampNeg)), (u.2.2.2.2.2.2.2.2.2.2.2.2.2.1 + (1 : Int32)), u.2.2.2.2.2.2.2.2.2.2.2.2.2.2.1, u.2.2.2.2.2.2.2.2.2.2.2.2.2.2.2.1, u.2.2.2.2.2.2.2.2.2.2.2.2.2.2.2.2)) H := hP
  have hD : va_D (va_A (WM bd cb u) s.heap.size) (WM bd cb (u.1, u.2.1, u.2.2.1, u.2.2.2.1, u.2.2.2.2.1, u.2.2.2.2.2.1, u.2.2.2.2.2.2.1, u.2.2.2.2.2.2.2.1, u.2.2.2.2.2.2.2.2.1, u.2.2.2.2.2.2.2.2.2.1, (upd u.2.2.2.2.2.2.2.2.2.2.1 u.2.2.2.2.2.2.2.2.2.2.2.2.2.1.toNatClampNeg a0), (vp_updL u.2.2.2.2.2.2.2.2.2.2.2.1 u.2.2.2.2.2.2.2.2.2.2.2.2.2.1.toNatClampNeg (u.1 a0.toNatClampNeg)), (upd u.2.2.2.2.2.2.2.2.2.2.2.2.1 u.2.2.2.2.2.2.2.2.2.2.2.2.2.1.toNatClampNeg (u.2.1 a0.toNatClampNeg)), (u.2.2.2.2.2.2.2.2.2.2.2.2.2.1 + (1 : Int32)), u.2.2.2.2.2.2.2.2.2.2.2.2.2.2.1, u.2.2.2.2.2.2.2.2.2.2.2.2.2.2.2.1, u.2.2.2.2.2.2.2.2.2.2.2.2.2.2.2.2)) := hD
  refine lv_aload_n hx hb dX7_keeps_50 rfl (lv_at hl 0 rfl) ?_
  refine va_get (D := (dC, dI)) (ci := 3) (v := .int (u.2.2.2.2.2.2.2.2.2.2.2.2.2.1 + (1 : Int32))) (C := RX7) (T := TX7) (N := 17) hx hb hts hin7 hown hK hP 0 rfl rfl 13 (by decide) (hts (.fieldLink RX7 139 "SnapTableModel" "trail" "I") (by decide +kernel)) (fun _ h9 => h9) rfl dX7_keeps_51 ?_
  refine lv_bipush (v := (16 : Int32)) hx hb dX7_keeps_54 (by decide) ?_
  refine lv_icmp_gt (tgt := 60) hx hb dX7_keeps_56 (by decide) (fun c_1 => ?_) (fun c_1 => ?_)
  · refine lv_iconst (v := (0 : Int32)) hx hb dX7_keeps_60 (by decide) ?_
    refine lv_istore_n (lv' := [(2, .int (0 : Int32)), (0, .ref (bd 0)), (1, .int a0)]) hx hb dX7_keeps_61 rfl hl (by decide) rfl (fun ls hl => ?_)
    have loop : ∀ (n : Nat) (i : Int32) (v : MS) (H : Heap) (locs : List Loc) (ls : Array Slot), LU 16 n i → mX7_keeps_L u a0 n i v = mX7_keeps u a0 → va_P (dC, dI) vwCl (WM bd cb v) H → va_D (va_A (WM bd cb u) s.heap.size) (WM bd cb v) → va_S (va_A (WM bd cb u) s.heap.size) s.heap H locs → lv_has ls 3 [(2, .int i), (0, .ref (bd 0)), (1, .int a0)] → W p l e (headSpec wsX7_keeps { frames := 0, cells := 0, slots := 0, locals := 0 }).room s m ([.ref (bd 0), .int a0] : List Value).toArray below meth c H locs 0 0 (MQ below (qM (dC, dI) vwCl (WM bd cb u) s.heap.size none (WM bd cb (mX7_keeps u a0))) ([.ref (bd 0), .int a0] : List Value).toArray s 0 0 (va_A (WM bd cb u) s.heap.size)) (F0 m 62 ls []) := by
      intro n
      induction n with
      | zero => intro i v H locs ls hm; exact absurd hm (fun h => h.z)
      | succ n ih =>
        intro i v H locs ls hm  heq hP hD hS hl
        refine lv_iload_n hx hb dX7_keeps_62 rfl (lv_at hl 0 rfl) ?_
        refine lv_bipush (v := (16 : Int32)) hx hb dX7_keeps_63 (by decide) ?_
        refine lv_icmp_ge (tgt := 116) hx hb dX7_keeps_65 (by decide) (fun c_2 => ?_) (fun c_2 => ?_)
        · refine lv_aload_n hx hb dX7_keeps_116 rfl (lv_at hl 1 rfl) ?_
          refine lv_bipush (v := (16 : Int32)) hx hb dX7_keeps_117 (by decide) ?_
          refine va_put (D := (dC, dI)) (ci := 3) (v := .int (16 : Int32)) (ty := .int) (C := RX7) (T := TX7) (N := 17) hx hb hts hin7 tyX7 tyX7_ok nmX7 hown hK hP hD hS 0 rfl rfl 13 (by decide) (hts (.fieldLink RX7 139 "SnapTableModel" "trail" "I") (by decide +kernel)) (fun _ h9 => h9) rfl (by decide +kernel) rfl rfl (Nat.le_of_ble_eq_true rfl) dX7_keeps_119 (fun H locs hP hD hS => ?_)
          have hP : va_P (dC, dI) vwCl (WM bd cb (v.1, v.2.1, v.2.2.1, v.2.2.2.1, v.2.2.2.2.1, v.2.2.2.2.2.1, v.2.2.2.2.2.2.1, v.2.2.2.2.2.2.2.1, v.2.2.2.2.2.2.2.2.1, v.2.2.2.2.2.2.2.2.2.1, v.2.2.2.2.2.2.2.2.2.2.1, v.2.2.2.2.2.2.2.2.2.2.2.1, v.2.2.2.2.2.2.2.2.2.2.2.2.1, (16 : Int32), v.2.2.2.2.2.2.2.2.2.2.2.2.2.2.1, v.2.2.2.2.2.2.2.2.2.2.2.2.2.2.2.1, v.2.2.2.2.2.2.2.2.2.2.2.2.2.2.2.2)) H := hP
          have hD : va_D (va_A (WM bd cb u) s.heap.size) (WM bd cb (v.1, v.2.1, v.2.2.1, v.2.2.2.1, v.2.2.2.2.1, v.2.2.2.2.2.1, v.2.2.2.2.2.2.1, v.2.2.2.2.2.2.2.1, v.2.2.2.2.2.2.2.2.1, v.2.2.2.2.2.2.2.2.2.1, v.2.2.2.2.2.2.2.2.2.2.1, v.2.2.2.2.2.2.2.2.2.2.2.1, v.2.2.2.2.2.2.2.2.2.2.2.2.1, (16 : Int32), v.2.2.2.2.2.2.2.2.2.2.2.2.2.2.1, v.2.2.2.2.2.2.2.2.2.2.2.2.2.2.2.1, v.2.2.2.2.2.2.2.2.2.2.2.2.2.2.2.2)) := hD
          have he : mX7_keeps u a0 = (v.1, v.2.1, v.2.2.1, v.2.2.2.1, v.2.2.2.2.1, v.2.2.2.2.2.1, v.2.2.2.2.2.2.1, v.2.2.2.2.2.2.2.1, v.2.2.2.2.2.2.2.2.1, v.2.2.2.2.2.2.2.2.2.1, v.2.2.2.2.2.2.2.2.2.2.1, v.2.2.2.2.2.2.2.2.2.2.2.1, v.2.2.2.2.2.2.2.2.2.2.2.2.1, (16 : Int32), v.2.2.2.2.2.2.2.2.2.2.2.2.2.2.1, v.2.2.2.2.2.2.2.2.2.2.2.2.2.2.2.1, v.2.2.2.2.2.2.2.2.2.2.2.2.2.2.2.2) := by rw [← heq, mX7_keeps_L, if_pos c_2]
          exact rM_v hx hb hr hlocks hP hD hS (by rw [he]) dX7_keeps_122
        · refine lv_aload_n hx hb dX7_keeps_68 rfl (lv_at hl 1 rfl) ?_
          refine va_get (D := (dC, dI)) (ci := 3) (v := .ref (bd 5)) (C := RX7) (T := TX7) (N := 17) hx hb hts hin7 hown hK hP 0 rfl rfl 10 (by decide) (hts (.fieldLink RX7 53 "SnapTableModel" "trailPoint" "[I") (by decide +kernel)) (fun _ h9 => h9) rfl dX7_keeps_69 ?_
          refine lv_iload_n hx hb dX7_keeps_72 rfl (lv_at hl 0 rfl) ?_
          refine lv_aload_n hx hb dX7_keeps_73 rfl (lv_at hl 1 rfl) ?_
          refine va_get (D := (dC, dI)) (ci := 3) (v := .ref (bd 5)) (C := RX7) (T := TX7) (N := 17) hx hb hts hin7 hown hK hP 0 rfl rfl 10 (by decide) (hts (.fieldLink RX7 53 "SnapTableModel" "trailPoint" "[I") (by decide +kernel)) (fun _ h9 => h9) rfl dX7_keeps_74 ?_
          refine lv_iload_n hx hb dX7_keeps_77 rfl (lv_at hl 0 rfl) ?_
          refine lv_iconst (v := (1 : Int32)) hx hb dX7_keeps_78 (by decide) ?_
          refine lv_iadd hx hb dX7_keeps_79 ?_
          refine va_iald hx hb hK hP 5 4 rfl rfl (LU.vin1 (B := 16) hm (by decide) (by with_reducible assumption) (by decide)) dX7_keeps_80 ?_
          refine va_iast hx hb hK hP hD hS 5 4 rfl rfl (by first | with_reducible assumption | with_reducible exact pt_in (by with_reducible assumption) | with_reducible exact ptm_in (by with_reducible assumption) | exact LU.vin (B := 8) hm (by decide) (by with_reducible assumption) (by decide) | exact LU.vin (B := 4) hm (by decide) (by with_reducible assumption) (by decide) | exact LU.vin (B := 16) hm (by decide) (by with_reducible assumption) (by decide) | exact vp_in_nI (n := 0) (by decide) (by decide) | with_reducible exact gdm_in (by with_reducible assumption) (by with_reducible assumption) | with_reducible exact gd_in (by with_reducible assumption) (by with_reducible assumption)) dX7_keeps_81 (fun H locs hP hD hS => ?_)
          have hP : va_P (dC, dI) vwCl (WM bd cb (v.1, v.2.1, v.2.2.1, v.2.2.2.1, v.2.2.2.2.1, v.2.2.2.2.2.1, v.2.2.2.2.2.2.1, v.2.2.2.2.2.2.2.1, v.2.2.2.2.2.2.2.2.1, v.2.2.2.2.2.2.2.2.2.1, (upd v.2.2.2.2.2.2.2.2.2.2.1 i.toNatClampNeg (v.2.2.2.2.2.2.2.2.2.2.1 (i + (1 : Int32)).toNatClampNeg)), v.2.2.2.2.2.2.2.2.2.2.2.1, v.2.2.2.2.2.2.2.2.2.2.2.2.1, v.2.2.2.2.2.2.2.2.2.2.2.2.2.1, v.2.2.2.2.2.2.2.2.2.2.2.2.2.2.1, v.2.2.2.2.2.2.2.2.2.2.2.2.2.2.2.1, v.2.2.2.2.2.2.2.2.2.2.2.2.2.2.2.2)) H := hP
          have hD : va_D (va_A (WM bd cb u) s.heap.size) (WM bd cb (v.1, v.2.1, v.2.2.1, v.2.2.2.1, v.2.2.2.2.1, v.2.2.2.2.2.1, v.2.2.2.2.2.2.1, v.2.2.2.2.2.2.2.1, v.2.2.2.2.2.2.2.2.1, v.2.2.2.2.2.2.2.2.2.1, (upd v.2.2.2.2.2.2.2.2.2.2.1 i.toNatClampNeg (v.2.2.2.2.2.2.2.2.2.2.1 (i + (1 : Int32)).toNatClampNeg)), v.2.2.2.2.2.2.2.2.2.2.2.1, v.2.2.2.2.2.2.2.2.2.2.2.2.1, v.2.2.2.2.2.2.2.2.2.2.2.2.2.1, v.2.2.2.2.2.2.2.2.2.2.2.2.2.2.1, v.2.2.2.2.2.2.2.2.2.2.2.2.2.2.2.1, v.2.2.2.2.2.2.2.2.2.2.2.2.2.2.2.2)) := hD
          refine lv_aload_n hx hb dX7_keeps_82 rfl (lv_at hl 1 rfl) ?_
          refine va_get (D := (dC, dI)) (ci := 3) (v := .ref (bd 6)) (C := RX7) (T := TX7) (N := 17) hx hb hts hin7 hown hK hP 0 rfl rfl 11 (by decide) (hts (.fieldLink RX7 56 "SnapTableModel" "trailX" "[J") (by decide +kernel)) (fun _ h9 => h9) rfl dX7_keeps_83 ?_
          refine lv_iload_n hx hb dX7_keeps_86 rfl (lv_at hl 0 rfl) ?_
          refine lv_aload_n hx hb dX7_keeps_87 rfl (lv_at hl 1 rfl) ?_
          refine va_get (D := (dC, dI)) (ci := 3) (v := .ref (bd 6)) (C := RX7) (T := TX7) (N := 17) hx hb hts hin7 hown hK hP 0 rfl rfl 11 (by decide) (hts (.fieldLink RX7 56 "SnapTableModel" "trailX" "[J") (by decide +kernel)) (fun _ h9 => h9) rfl dX7_keeps_88 ?_
          refine lv_iload_n hx hb dX7_keeps_91 rfl (lv_at hl 0 rfl) ?_
          refine lv_iconst (v := (1 : Int32)) hx hb dX7_keeps_92 (by decide) ?_
          refine lv_iadd hx hb dX7_keeps_93 ?_
          refine va_lald hx hb hK hP 6 5 rfl rfl (LU.vin1 (B := 16) hm (by decide) (by with_reducible assumption) (by decide)) dX7_keeps_94 ?_
          refine va_last hx hb hK hP hD hS 6 5 rfl rfl (by first | with_reducible assumption | with_reducible exact pt_in (by with_reducible assumption) | with_reducible exact ptm_in (by with_reducible assumption) | exact LU.vin (B := 8) hm (by decide) (by with_reducible assumption) (by decide) | exact LU.vin (B := 4) hm (by decide) (by with_reducible assumption) (by decide) | exact LU.vin (B := 16) hm (by decide) (by with_reducible assumption) (by decide) | exact vp_in_nI (n := 0) (by decide) (by decide) | with_reducible exact gdm_in (by with_reducible assumption) (by with_reducible assumption) | with_reducible exact gd_in (by with_reducible assumption) (by with_reducible assumption)) dX7_keeps_95 (fun H locs hP hD hS => ?_)
          have hP : va_P (dC, dI) vwCl (WM bd cb (v.1, v.2.1, v.2.2.1, v.2.2.2.1, v.2.2.2.2.1, v.2.2.2.2.2.1, v.2.2.2.2.2.2.1, v.2.2.2.2.2.2.2.1, v.2.2.2.2.2.2.2.2.1, v.2.2.2.2.2.2.2.2.2.1, (upd v.2.2.2.2.2.2.2.2.2.2.1 i.toNatClampNeg (v.2.2.2.2.2.2.2.2.2.2.1 (i + (1 : Int32)).toNatClampNeg)), (vp_updL v.2.2.2.2.2.2.2.2.2.2.2.1 i.toNatClampNeg (v.2.2.2.2.2.2.2.2.2.2.2.1 (i + (1 : Int32)).toNatClampNeg)), v.2.2.2.2.2.2.2.2.2.2.2.2.1, v.2.2.2.2.2.2.2.2.2.2.2.2.2.1, v.2.2.2.2.2.2.2.2.2.2.2.2.2.2.1, v.2.2.2.2.2.2.2.2.2.2.2.2.2.2.2.1, v.2.2.2.2.2.2.2.2.2.2.2.2.2.2.2.2)) H := hP
          have hD : va_D (va_A (WM bd cb u) s.heap.size) (WM bd cb (v.1, v.2.1, v.2.2.1, v.2.2.2.1, v.2.2.2.2.1, v.2.2.2.2.2.1, v.2.2.2.2.2.2.1, v.2.2.2.2.2.2.2.1, v.2.2.2.2.2.2.2.2.1, v.2.2.2.2.2.2.2.2.2.1, (upd v.2.2.2.2.2.2.2.2.2.2.1 i.toNatClampNeg (v.2.2.2.2.2.2.2.2.2.2.1 (i + (1 : Int32)).toNatClampNeg)), (vp_updL v.2.2.2.2.2.2.2.2.2.2.2.1 i.toNatClampNeg (v.2.2.2.2.2.2.2.2.2.2.2.1 (i + (1 : Int32)).toNatClampNeg)), v.2.2.2.2.2.2.2.2.2.2.2.2.1, v.2.2.2.2.2.2.2.2.2.2.2.2.2.1, v.2.2.2.2.2.2.2.2.2.2.2.2.2.2.1, v.2.2.2.2.2.2.2.2.2.2.2.2.2.2.2.1, v.2.2.2.2.2.2.2.2.2.2.2.2.2.2.2.2)) := hD
          refine lv_aload_n hx hb dX7_keeps_96 rfl (lv_at hl 1 rfl) ?_
          refine va_get (D := (dC, dI)) (ci := 3) (v := .ref (bd 7)) (C := RX7) (T := TX7) (N := 17) hx hb hts hin7 hown hK hP 0 rfl rfl 12 (by decide) (hts (.fieldLink RX7 59 "SnapTableModel" "trailY" "[I") (by decide +kernel)) (fun _ h9 => h9) rfl dX7_keeps_97 ?_
          refine lv_iload_n hx hb dX7_keeps_100 rfl (lv_at hl 0 rfl) ?_
          refine lv_aload_n hx hb dX7_keeps_101 rfl (lv_at hl 1 rfl) ?_
          refine va_get (D := (dC, dI)) (ci := 3) (v := .ref (bd 7)) (C := RX7) (T := TX7) (N := 17) hx hb hts hin7 hown hK hP 0 rfl rfl 12 (by decide) (hts (.fieldLink RX7 59 "SnapTableModel" "trailY" "[I") (by decide +kernel)) (fun _ h9 => h9) rfl dX7_keeps_102 ?_
          refine lv_iload_n hx hb dX7_keeps_105 rfl (lv_at hl 0 rfl) ?_
          refine lv_iconst (v := (1 : Int32)) hx hb dX7_keeps_106 (by decide) ?_
          refine lv_iadd hx hb dX7_keeps_107 ?_
          refine va_iald hx hb hK hP 7 6 rfl rfl (LU.vin1 (B := 16) hm (by decide) (by with_reducible assumption) (by decide)) dX7_keeps_108 ?_
          refine va_iast hx hb hK hP hD hS 7 6 rfl rfl (by first | with_reducible assumption | with_reducible exact pt_in (by with_reducible assumption) | with_reducible exact ptm_in (by with_reducible assumption) | exact LU.vin (B := 8) hm (by decide) (by with_reducible assumption) (by decide) | exact LU.vin (B := 4) hm (by decide) (by with_reducible assumption) (by decide) | exact LU.vin (B := 16) hm (by decide) (by with_reducible assumption) (by decide) | exact vp_in_nI (n := 0) (by decide) (by decide) | with_reducible exact gdm_in (by with_reducible assumption) (by with_reducible assumption) | with_reducible exact gd_in (by with_reducible assumption) (by with_reducible assumption)) dX7_keeps_109 (fun H locs hP hD hS => ?_)
          have hP : va_P (dC, dI) vwCl (WM bd cb (v.1, v.2.1, v.2.2.1, v.2.2.2.1, v.2.2.2.2.1, v.2.2.2.2.2.1, v.2.2.2.2.2.2.1, v.2.2.2.2.2.2.2.1, v.2.2.2.2.2.2.2.2.1, v.2.2.2.2.2.2.2.2.2.1, (upd v.2.2.2.2.2.2.2.2.2.2.1 i.toNatClampNeg (v.2.2.2.2.2.2.2.2.2.2.1 (i + (1 : Int32)).toNatClampNeg)), (vp_updL v.2.2.2.2.2.2.2.2.2.2.2.1 i.toNatClampNeg (v.2.2.2.2.2.2.2.2.2.2.2.1 (i + (1 : Int32)).toNatClampNeg)), (upd v.2.2.2.2.2.2.2.2.2.2.2.2.1 i.toNatClampNeg (v.2.2.2.2.2.2.2.2.2.2.2.2.1 (i + (1 : Int32)).toNatClampNeg)), v.2.2.2.2.2.2.2.2.2.2.2.2.2.1, v.2.2.2.2.2.2.2.2.2.2.2.2.2.2.1, v.2.2.2.2.2.2.2.2.2.2.2.2.2.2.2.1, v.2.2.2.2.2.2.2.2.2.2.2.2.2.2.2.2)) H := hP
          have hD : va_D (va_A (WM bd cb u) s.heap.size) (WM bd cb (v.1, v.2.1, v.2.2.1, v.2.2.2.1, v.2.2.2.2.1, v.2.2.2.2.2.1, v.2.2.2.2.2.2.1, v.2.2.2.2.2.2.2.1, v.2.2.2.2.2.2.2.2.1, v.2.2.2.2.2.2.2.2.2.1, (upd v.2.2.2.2.2.2.2.2.2.2.1 i.toNatClampNeg (v.2.2.2.2.2.2.2.2.2.2.1 (i + (1 : Int32)).toNatClampNeg)), (vp_updL v.2.2.2.2.2.2.2.2.2.2.2.1 i.toNatClampNeg (v.2.2.2.2.2.2.2.2.2.2.2.1 (i + (1 : Int32)).toNatClampNeg)), (upd v.2.2.2.2.2.2.2.2.2.2.2.2.1 i.toNatClampNeg (v.2.2.2.2.2.2.2.2.2.2.2.2.1 (i + (1 : Int32)).toNatClampNeg)), v.2.2.2.2.2.2.2.2.2.2.2.2.2.1, v.2.2.2.2.2.2.2.2.2.2.2.2.2.2.1, v.2.2.2.2.2.2.2.2.2.2.2.2.2.2.2.1, v.2.2.2.2.2.2.2.2.2.2.2.2.2.2.2.2)) := hD
          refine lv_iinc (v := (i + 1)) (lv' := [(2, .int (i + 1)), (0, .ref (bd 0)), (1, .int a0)]) hx hb dX7_keeps_110 hl (k := 0) rfl rfl (by decide) rfl (fun ls hl => ?_)
          refine lv_goto (tgt := 62) hx hb dX7_keeps_113 (by decide) ?_
          exact ih (i + 1) (v.1, v.2.1, v.2.2.1, v.2.2.2.1, v.2.2.2.2.1, v.2.2.2.2.2.1, v.2.2.2.2.2.2.1, v.2.2.2.2.2.2.2.1, v.2.2.2.2.2.2.2.2.1, v.2.2.2.2.2.2.2.2.2.1, (upd v.2.2.2.2.2.2.2.2.2.2.1 i.toNatClampNeg (v.2.2.2.2.2.2.2.2.2.2.1 (i + (1 : Int32)).toNatClampNeg)), (vp_updL v.2.2.2.2.2.2.2.2.2.2.2.1 i.toNatClampNeg (v.2.2.2.2.2.2.2.2.2.2.2.1 (i + (1 : Int32)).toNatClampNeg)), (upd v.2.2.2.2.2.2.2.2.2.2.2.2.1 i.toNatClampNeg (v.2.2.2.2.2.2.2.2.2.2.2.2.1 (i + (1 : Int32)).toNatClampNeg)), v.2.2.2.2.2.2.2.2.2.2.2.2.2.1, v.2.2.2.2.2.2.2.2.2.2.2.2.2.2.1, v.2.2.2.2.2.2.2.2.2.2.2.2.2.2.2.1, v.2.2.2.2.2.2.2.2.2.2.2.2.2.2.2.2) _ _ ls (LU.up (B := 16) (by decide) hm (by with_reducible assumption))  (by rw [← heq, mX7_keeps_L, if_neg c_2]) hP hD hS (lv_sub hl [0, 1, 2] rfl)
    exact loop 17 (0 : Int32) (u.1, u.2.1, u.2.2.1, u.2.2.2.1, u.2.2.2.2.1, u.2.2.2.2.2.1, u.2.2.2.2.2.2.1, u.2.2.2.2.2.2.2.1, u.2.2.2.2.2.2.2.2.1, u.2.2.2.2.2.2.2.2.2.1, (upd u.2.2.2.2.2.2.2.2.2.2.1 u.2.2.2.2.2.2.2.2.2.2.2.2.2.1.toNatClampNeg a0), (vp_updL u.2.2.2.2.2.2.2.2.2.2.2.1 u.2.2.2.2.2.2.2.2.2.2.2.2.2.1.toNatClampNeg (u.1 a0.toNatClampNeg)), (upd u.2.2.2.2.2.2.2.2.2.2.2.2.1 u.2.2.2.2.2.2.2.2.2.2.2.2.2.1.toNatClampNeg (u.2.1 a0.toNatClampNeg)), (u.2.2.2.2.2.2.2.2.2.2.2.2.2.1 + (1 : Int32)), u.2.2.2.2.2.2.2.2.2.2.2.2.2.2.1, u.2.2.2.2.2.2.2.2.2.2.2.2.2.2.2.1, u.2.2.2.2.2.2.2.2.2.2.2.2.2.2.2.2) _ _ ls (by unfold LU; decide)  (by rw [mX7_keeps, if_pos c_1]) hP hD hS (lv_sub hl [0, 1, 2] rfl)
  · have he : mX7_keeps u a0 = (u.1, u.2.1, u.2.2.1, u.2.2.2.1, u.2.2.2.2.1, u.2.2.2.2.2.1, u.2.2.2.2.2.2.1, u.2.2.2.2.2.2.2.1, u.2.2.2.2.2.2.2.2.1, u.2.2.2.2.2.2.2.2.2.1, (upd u.2.2.2.2.2.2.2.2.2.2.1 u.2.2.2.2.2.2.2.2.2.2.2.2.2.1.toNatClampNeg a0), (vp_updL u.2.2.2.2.2.2.2.2.2.2.2.1 u.2.2.2.2.2.2.2.2.2.2.2.2.2.1.toNatClampNeg (u.1 a0.toNatClampNeg)), (upd u.2.2.2.2.2.2.2.2.2.2.2.2.1 u.2.2.2.2.2.2.2.2.2.2.2.2.2.1.toNatClampNeg (u.2.1 a0.toNatClampNeg)), (u.2.2.2.2.2.2.2.2.2.2.2.2.2.1 + (1 : Int32)), u.2.2.2.2.2.2.2.2.2.2.2.2.2.2.1, u.2.2.2.2.2.2.2.2.2.2.2.2.2.2.2.1, u.2.2.2.2.2.2.2.2.2.2.2.2.2.2.2.2) := by rw [mX7_keeps, if_neg c_1]
    exact rM_v hx hb hr hlocks hP hD hS (by rw [he]) dX7_keeps_59

def mX7_comes (u : MS) (a0 : Int32) (a1 : Int64) (a2 : Int32) : Int32 × MS := (if (mX7_isInfinite (mX7_walled u a1)) = 0 then (if (mX7_isInfinite4 (mX7_railed u a2)) = 0 then (if (lg_cmp (mX7_walled u a1) a1) = 0 then (if (mX7_railed u a2) = a2 then ((mX7_does ((vp_updL (mX7_keeps u a0).1 a0.toNatClampNeg (mX7_walled u a1)), (upd (mX7_keeps u a0).2.1 a0.toNatClampNeg (mX7_railed u a2)), (mX7_keeps u a0).2.2.1, (mX7_keeps u a0).2.2.2.1, (mX7_keeps u a0).2.2.2.2.1, (mX7_keeps u a0).2.2.2.2.2.1, (mX7_keeps u a0).2.2.2.2.2.2.1, (mX7_keeps u a0).2.2.2.2.2.2.2.1, (mX7_keeps u a0).2.2.2.2.2.2.2.2.1, (mX7_keeps u a0).2.2.2.2.2.2.2.2.2.1, (mX7_keeps u a0).2.2.2.2.2.2.2.2.2.2.1, (mX7_keeps u a0).2.2.2.2.2.2.2.2.2.2.2.1, (mX7_keeps u a0).2.2.2.2.2.2.2.2.2.2.2.2.1, (mX7_keeps u a0).2.2.2.2.2.2.2.2.2.2.2.2.2.1, (mX7_keeps u a0).2.2.2.2.2.2.2.2.2.2.2.2.2.2.1, (mX7_keeps u a0).2.2.2.2.2.2.2.2.2.2.2.2.2.2.2.1, ((mX7_keeps u a0).2.2.2.2.2.2.2.2.2.2.2.2.2.2.2.2 + ((0 : Int32) + (0 : Int32))))).1, (mX7_does ((vp_updL (mX7_keeps u a0).1 a0.toNatClampNeg (mX7_walled u a1)), (upd (mX7_keeps u a0).2.1 a0.toNatClampNeg (mX7_railed u a2)), (mX7_keeps u a0).2.2.1, (mX7_keeps u a0).2.2.2.1, (mX7_keeps u a0).2.2.2.2.1, (mX7_keeps u a0).2.2.2.2.2.1, (mX7_keeps u a0).2.2.2.2.2.2.1, (mX7_keeps u a0).2.2.2.2.2.2.2.1, (mX7_keeps u a0).2.2.2.2.2.2.2.2.1, (mX7_keeps u a0).2.2.2.2.2.2.2.2.2.1, (mX7_keeps u a0).2.2.2.2.2.2.2.2.2.2.1, (mX7_keeps u a0).2.2.2.2.2.2.2.2.2.2.2.1, (mX7_keeps u a0).2.2.2.2.2.2.2.2.2.2.2.2.1, (mX7_keeps u a0).2.2.2.2.2.2.2.2.2.2.2.2.2.1, (mX7_keeps u a0).2.2.2.2.2.2.2.2.2.2.2.2.2.2.1, (mX7_keeps u a0).2.2.2.2.2.2.2.2.2.2.2.2.2.2.2.1, ((mX7_keeps u a0).2.2.2.2.2.2.2.2.2.2.2.2.2.2.2.2 + ((0 : Int32) + (0 : Int32))))).2) else ((mX7_does ((vp_updL (mX7_keeps u a0).1 a0.toNatClampNeg (mX7_walled u a1)), (upd (mX7_keeps u a0).2.1 a0.toNatClampNeg (mX7_railed u a2)), (mX7_keeps u a0).2.2.1, (mX7_keeps u a0).2.2.2.1, (mX7_keeps u a0).2.2.2.2.1, (mX7_keeps u a0).2.2.2.2.2.1, (mX7_keeps u a0).2.2.2.2.2.2.1, (mX7_keeps u a0).2.2.2.2.2.2.2.1, (mX7_keeps u a0).2.2.2.2.2.2.2.2.1, (mX7_keeps u a0).2.2.2.2.2.2.2.2.2.1, (mX7_keeps u a0).2.2.2.2.2.2.2.2.2.2.1, (mX7_keeps u a0).2.2.2.2.2.2.2.2.2.2.2.1, (mX7_keeps u a0).2.2.2.2.2.2.2.2.2.2.2.2.1, (mX7_keeps u a0).2.2.2.2.2.2.2.2.2.2.2.2.2.1, (mX7_keeps u a0).2.2.2.2.2.2.2.2.2.2.2.2.2.2.1, (mX7_keeps u a0).2.2.2.2.2.2.2.2.2.2.2.2.2.2.2.1, ((mX7_keeps u a0).2.2.2.2.2.2.2.2.2.2.2.2.2.2.2.2 + ((0 : Int32) + (1 : Int32))))).1, (mX7_does ((vp_updL (mX7_keeps u a0).1 a0.toNatClampNeg (mX7_walled u a1)), (upd (mX7_keeps u a0).2.1 a0.toNatClampNeg (mX7_railed u a2)), (mX7_keeps u a0).2.2.1, (mX7_keeps u a0).2.2.2.1, (mX7_keeps u a0).2.2.2.2.1, (mX7_keeps u a0).2.2.2.2.2.1, (mX7_keeps u a0).2.2.2.2.2.2.1, (mX7_keeps u a0).2.2.2.2.2.2.2.1, (mX7_keeps u a0).2.2.2.2.2.2.2.2.1, (mX7_keeps u a0).2.2.2.2.2.2.2.2.2.1, (mX7_keeps u a0).2.2.2.2.2.2.2.2.2.2.1, (mX7_keeps u a0).2.2.2.2.2.2.2.2.2.2.2.1, (mX7_keeps u a0).2.2.2.2.2.2.2.2.2.2.2.2.1, (mX7_keeps u a0).2.2.2.2.2.2.2.2.2.2.2.2.2.1, (mX7_keeps u a0).2.2.2.2.2.2.2.2.2.2.2.2.2.2.1, (mX7_keeps u a0).2.2.2.2.2.2.2.2.2.2.2.2.2.2.2.1, ((mX7_keeps u a0).2.2.2.2.2.2.2.2.2.2.2.2.2.2.2.2 + ((0 : Int32) + (1 : Int32))))).2)) else (if (mX7_railed u a2) = a2 then ((mX7_does ((vp_updL (mX7_keeps u a0).1 a0.toNatClampNeg (mX7_walled u a1)), (upd (mX7_keeps u a0).2.1 a0.toNatClampNeg (mX7_railed u a2)), (mX7_keeps u a0).2.2.1, (mX7_keeps u a0).2.2.2.1, (mX7_keeps u a0).2.2.2.2.1, (mX7_keeps u a0).2.2.2.2.2.1, (mX7_keeps u a0).2.2.2.2.2.2.1, (mX7_keeps u a0).2.2.2.2.2.2.2.1, (mX7_keeps u a0).2.2.2.2.2.2.2.2.1, (mX7_keeps u a0).2.2.2.2.2.2.2.2.2.1, (mX7_keeps u a0).2.2.2.2.2.2.2.2.2.2.1, (mX7_keeps u a0).2.2.2.2.2.2.2.2.2.2.2.1, (mX7_keeps u a0).2.2.2.2.2.2.2.2.2.2.2.2.1, (mX7_keeps u a0).2.2.2.2.2.2.2.2.2.2.2.2.2.1, (mX7_keeps u a0).2.2.2.2.2.2.2.2.2.2.2.2.2.2.1, (mX7_keeps u a0).2.2.2.2.2.2.2.2.2.2.2.2.2.2.2.1, ((mX7_keeps u a0).2.2.2.2.2.2.2.2.2.2.2.2.2.2.2.2 + ((1 : Int32) + (0 : Int32))))).1, (mX7_does ((vp_updL (mX7_keeps u a0).1 a0.toNatClampNeg (mX7_walled u a1)), (upd (mX7_keeps u a0).2.1 a0.toNatClampNeg (mX7_railed u a2)), (mX7_keeps u a0).2.2.1, (mX7_keeps u a0).2.2.2.1, (mX7_keeps u a0).2.2.2.2.1, (mX7_keeps u a0).2.2.2.2.2.1, (mX7_keeps u a0).2.2.2.2.2.2.1, (mX7_keeps u a0).2.2.2.2.2.2.2.1, (mX7_keeps u a0).2.2.2.2.2.2.2.2.1, (mX7_keeps u a0).2.2.2.2.2.2.2.2.2.1, (mX7_keeps u a0).2.2.2.2.2.2.2.2.2.2.1, (mX7_keeps u a0).2.2.2.2.2.2.2.2.2.2.2.1, (mX7_keeps u a0).2.2.2.2.2.2.2.2.2.2.2.2.1, (mX7_keeps u a0).2.2.2.2.2.2.2.2.2.2.2.2.2.1, (mX7_keeps u a0).2.2.2.2.2.2.2.2.2.2.2.2.2.2.1, (mX7_keeps u a0).2.2.2.2.2.2.2.2.2.2.2.2.2.2.2.1, ((mX7_keeps u a0).2.2.2.2.2.2.2.2.2.2.2.2.2.2.2.2 + ((1 : Int32) + (0 : Int32))))).2) else ((mX7_does ((vp_updL (mX7_keeps u a0).1 a0.toNatClampNeg (mX7_walled u a1)), (upd (mX7_keeps u a0).2.1 a0.toNatClampNeg (mX7_railed u a2)), (mX7_keeps u a0).2.2.1, (mX7_keeps u a0).2.2.2.1, (mX7_keeps u a0).2.2.2.2.1, (mX7_keeps u a0).2.2.2.2.2.1, (mX7_keeps u a0).2.2.2.2.2.2.1, (mX7_keeps u a0).2.2.2.2.2.2.2.1, (mX7_keeps u a0).2.2.2.2.2.2.2.2.1, (mX7_keeps u a0).2.2.2.2.2.2.2.2.2.1, (mX7_keeps u a0).2.2.2.2.2.2.2.2.2.2.1, (mX7_keeps u a0).2.2.2.2.2.2.2.2.2.2.2.1, (mX7_keeps u a0).2.2.2.2.2.2.2.2.2.2.2.2.1, (mX7_keeps u a0).2.2.2.2.2.2.2.2.2.2.2.2.2.1, (mX7_keeps u a0).2.2.2.2.2.2.2.2.2.2.2.2.2.2.1, (mX7_keeps u a0).2.2.2.2.2.2.2.2.2.2.2.2.2.2.2.1, ((mX7_keeps u a0).2.2.2.2.2.2.2.2.2.2.2.2.2.2.2.2 + ((1 : Int32) + (1 : Int32))))).1, (mX7_does ((vp_updL (mX7_keeps u a0).1 a0.toNatClampNeg (mX7_walled u a1)), (upd (mX7_keeps u a0).2.1 a0.toNatClampNeg (mX7_railed u a2)), (mX7_keeps u a0).2.2.1, (mX7_keeps u a0).2.2.2.1, (mX7_keeps u a0).2.2.2.2.1, (mX7_keeps u a0).2.2.2.2.2.1, (mX7_keeps u a0).2.2.2.2.2.2.1, (mX7_keeps u a0).2.2.2.2.2.2.2.1, (mX7_keeps u a0).2.2.2.2.2.2.2.2.1, (mX7_keeps u a0).2.2.2.2.2.2.2.2.2.1, (mX7_keeps u a0).2.2.2.2.2.2.2.2.2.2.1, (mX7_keeps u a0).2.2.2.2.2.2.2.2.2.2.2.1, (mX7_keeps u a0).2.2.2.2.2.2.2.2.2.2.2.2.1, (mX7_keeps u a0).2.2.2.2.2.2.2.2.2.2.2.2.2.1, (mX7_keeps u a0).2.2.2.2.2.2.2.2.2.2.2.2.2.2.1, (mX7_keeps u a0).2.2.2.2.2.2.2.2.2.2.2.2.2.2.2.1, ((mX7_keeps u a0).2.2.2.2.2.2.2.2.2.2.2.2.2.2.2.2 + ((1 : Int32) + (1 : Int32))))).2))) else ((mX7_refuses u (5 : Int32)).1, (mX7_refuses u (5 : Int32)).2)) else ((mX7_refuses u (5 : Int32)).1, (mX7_refuses u (5 : Int32)).2))
set_option maxHeartbeats 4000000 in
set_option maxRecDepth 100000 in
theorem ct_X7_comes (l : Launch) (dC : Nat → ClassId) (dI : Nat → Nat → Nat) (bd : Nat → Nat) (cb : Nat → ClassId) (sz : Nat) (u : MS) (a0 : Int32) (a1 : Int64) (a2 : Int32) (hk : vp_in a0 8) (ht : vp_in u.2.2.2.2.2.2.2.2.2.2.2.2.2.1 17) : Met l yX7_comes wsX7_comes { frames := 4, cells := 0, slots := 0, locals := 87 } (pM (dC, dI) vwCl [((cb 1), .long), ((cb 2), .int), ((cb 3), .long), ((cb 4), .boolean), ((cb 5), .int), ((cb 6), .long), ((cb 7), .int)] (WM bd cb u) sz [.ref (bd 0), .int a0, .long a1, .int a2]) (qM (dC, dI) vwCl (WM bd cb u) sz (some (.int (mX7_comes u a0 a1 a2).1)) (WM bd cb (mX7_comes u a0 a1 a2).2)) 0 0 (va_A (WM bd cb u) sz) := by
  refine Met.ofW (cc := cX7_comes) (maxL := 8) (ret := (some .int)) (by decide) rfl ?_
  intro p e s m args below meth c s₁ B hml hv
  obtain ⟨rfl, hsz, hP, hK, hD0, hNW⟩ := hv
  subst hsz
  have hx := B.exec
  have hb := B.bytes
  have hr := B.returns
  have hts := atoms_spec (ws := wsX7_comes) B.pre
  have hown : s.vm.findClass RX7 = some m.cls := findClass_of_methodNamed B.named
  have hlocks := B.notSynchronized
  have hin7 : ∀ w ∈ wsX70, w ∈ wsX7_comes := by decide +kernel
  have hD : va_D (va_A (WM bd cb u) s.heap.size) (WM bd cb u) := hD0.self
  have hA : ∀ q : Nat, s.heap.size ≤ q → va_A (WM bd cb u) s.heap.size q := fun q h => Or.inr h
  have hS : va_S (va_A (WM bd cb u) s.heap.size) s.heap s.heap [] := va_S.rf
  have hl := lv_entry ([.ref (bd 0), .int a0, .long a1, .int a2]) (n := 8) (Nat.le_of_ble_eq_true rfl)
  rw [lg_entry_eq]
  generalize (lg_sl ([.ref (bd 0), .int a0, .long a1, .int a2]) ++ List.replicate (8 - (lg_sl ([.ref (bd 0), .int a0, .long a1, .int a2])).length) Slot.unset).toArray = ls at hl ⊢
  have hl : lv_has ls 8 [(0, .ref (bd 0)), (1, .int a0), (2, .long a1), (4, .int a2)] := hl
  refine lv_aload_n hx hb dX7_comes_0 rfl (lv_at hl 0 rfl) ?_
  refine lv_lload_n hx hb dX7_comes_1 rfl (lv_at hl 2 rfl) ?_
  refine hc_V (C := RX7) (ci := 3) (T := TX7) (N := 17) (As := [.long a1]) (rest := []) ⟨hx, hb, hml, hown, hts⟩ (ct_X7_walled l dC dI bd cb u a1) (cwV 1 hts gX7_comes_X7_walled rfl rfl rfl (by decide +kernel) ⟨Nat.le_of_ble_eq_true rfl, Nat.le_of_ble_eq_true rfl⟩) (hw_part hP [0, 1, 2, 3, 4, 5, 6, 7] rfl) (hK.sub [0, 1, 2, 3, 4, 5, 6] rfl) hNW rfl rfl rfl hl.1 rfl (Nat.le_of_ble_eq_true rfl) dX7_comes_2 ⟨Nat.le_of_ble_eq_true rfl, Nat.le_of_ble_eq_true rfl⟩ ?_
  refine lv_lstore (lv' := [(5, .long (mX7_walled u a1)), (0, .ref (bd 0)), (1, .int a0), (2, .long a1), (4, .int a2)]) hx hb dX7_comes_5 hl (by decide) rfl (fun ls hl => ?_)
  refine lv_aload_n hx hb dX7_comes_7 rfl (lv_at hl 1 rfl) ?_
  refine lv_iload hx hb dX7_comes_8 (lv_at hl 4 rfl) ?_
  refine hc_V (C := RX7) (ci := 3) (T := TX7) (N := 17) (As := [.int a2]) (rest := []) ⟨hx, hb, hml, hown, hts⟩ (ct_X7_railed l dC dI bd cb u a2) (cwV 1 hts gX7_comes_X7_railed rfl rfl rfl (by decide +kernel) ⟨Nat.le_of_ble_eq_true rfl, Nat.le_of_ble_eq_true rfl⟩) (hw_part hP [0, 1, 2, 3, 4, 5, 6, 7] rfl) (hK.sub [0, 1, 2, 3, 4, 5, 6] rfl) hNW rfl rfl rfl hl.1 rfl (Nat.le_of_ble_eq_true rfl) dX7_comes_10 ⟨Nat.le_of_ble_eq_true rfl, Nat.le_of_ble_eq_true rfl⟩ ?_
  refine lv_istore (lv' := [(7, .int (mX7_railed u a2)), (5, .long (mX7_walled u a1)), (0, .ref (bd 0)), (1, .int a0), (2, .long a1), (4, .int a2)]) hx hb dX7_comes_13 hl (by decide) rfl (fun ls hl => ?_)
  refine lv_lload hx hb dX7_comes_15 (lv_at hl 1 rfl) ?_
  refine hc_S (As := [.long (mX7_walled u a1)]) (rest := []) ⟨hx, hb, hml, hown, hts⟩ (ct_X7_isInfinite l (mX7_walled u a1)) (va_cwS 1 hts gX7_comes_X7_isInfinite rfl rfl rfl (by decide +kernel) ⟨Nat.le_of_ble_eq_true rfl, Nat.le_of_ble_eq_true rfl⟩) rfl hl.1 rfl (Nat.le_of_ble_eq_true rfl) dX7_comes_17 ⟨Nat.le_of_ble_eq_true rfl, Nat.le_of_ble_eq_true rfl⟩ ?_
  refine lv_if_ne (tgt := 31) hx hb dX7_comes_20 (by decide) (fun c_1 => ?_) (fun c_1 => ?_)
  · refine lv_aload_n hx hb dX7_comes_31 rfl (lv_at hl 2 rfl) ?_
    refine lv_iconst (v := (5 : Int32)) hx hb dX7_comes_32 (by decide) ?_
    refine hc_M (C := RX7) (ci := 3) (T := TX7) (N := 17) (As := [.int (5 : Int32)]) (rest := []) ⟨hx, hb, hml, hown, hts⟩ (ct_X7_refuses l dC dI bd cb _ u (5 : Int32)) (cwV 1 hts gX7_comes_X7_refuses rfl rfl rfl (by decide +kernel) ⟨Nat.le_of_ble_eq_true rfl, Nat.le_of_ble_eq_true rfl⟩) hP hD (hK.sub [0, 1, 2, 3, 4, 5, 6] rfl) hNW hS hA [0, 1, 2, 3, 4, 5, 6, 7] [] rfl (wr := []) rfl (by decide) (by decide) (by decide) rfl rfl rfl hl.1 rfl (Nat.le_of_ble_eq_true rfl) dX7_comes_33 ⟨Nat.le_of_ble_eq_true rfl, Nat.le_of_ble_eq_true rfl⟩ (fun H locs hP hD hS => ?_)
    generalize hz_2 : mX7_refuses u (5 : Int32) = z_2 at hP hD ⊢
    have hP : va_P (dC, dI) vwCl (WM bd cb z_2.2) H := hP.sub [0, 1, 2, 3, 4, 5, 6, 7] rfl
    have hD : va_D (va_A (WM bd cb u) s.heap.size) (WM bd cb z_2.2) := hD.sub [0, 1, 2, 3, 4, 5, 6, 7] (by decide) rfl
    refine W.eq (g2 := F0 m 36 ls (.int z_2.1 :: [])) rfl ?_
    have he : mX7_comes u a0 a1 a2 = (z_2.1, z_2.2) := by rw [mX7_comes, if_neg c_1, hz_2]
    exact rM_i hx hb hr hlocks hP hD hS (by rw [he]) (by rw [he]) dX7_comes_36
  · refine lv_iload hx hb dX7_comes_23 (lv_at hl 0 rfl) ?_
    refine hc_S (As := [.int (mX7_railed u a2)]) (rest := []) ⟨hx, hb, hml, hown, hts⟩ (ct_X7_isInfinite4 l (mX7_railed u a2)) (va_cwS 1 hts gX7_comes_X7_isInfinite4 rfl rfl rfl (by decide +kernel) ⟨Nat.le_of_ble_eq_true rfl, Nat.le_of_ble_eq_true rfl⟩) rfl hl.1 rfl (Nat.le_of_ble_eq_true rfl) dX7_comes_25 ⟨Nat.le_of_ble_eq_true rfl, Nat.le_of_ble_eq_true rfl⟩ ?_
    refine lv_if_eq (tgt := 37) hx hb dX7_comes_28 (by decide) (fun c_3 => ?_) (fun c_3 => ?_)
    · refine lv_aload_n hx hb dX7_comes_37 rfl (lv_at hl 2 rfl) ?_
      refine lv_iload_n hx hb dX7_comes_38 rfl (lv_at hl 3 rfl) ?_
      refine hc_M (C := RX7) (ci := 3) (T := TX7) (N := 17) (As := [.int a0]) (rest := []) ⟨hx, hb, hml, hown, hts⟩ (ct_X7_keeps l dC dI bd cb _ u a0 (by with_reducible assumption) (by with_reducible assumption)) (cwV 1 hts gX7_comes_X7_keeps rfl rfl rfl (by decide +kernel) ⟨Nat.le_of_ble_eq_true rfl, Nat.le_of_ble_eq_true rfl⟩) hP hD (hK.sub [0, 1, 2, 3, 4, 5, 6] rfl) hNW hS hA [0, 1, 2, 3, 4, 5, 6, 7] [] rfl (wr := []) rfl (by decide) (by decide) (by decide) rfl rfl rfl hl.1 rfl (Nat.le_of_ble_eq_true rfl) dX7_comes_39 ⟨Nat.le_of_ble_eq_true rfl, Nat.le_of_ble_eq_true rfl⟩ (fun H locs hP hD hS => ?_)
      generalize hz_4 : mX7_keeps u a0 = z_4 at hP hD
      have hP : va_P (dC, dI) vwCl (WM bd cb z_4) H := hP.sub [0, 1, 2, 3, 4, 5, 6, 7] rfl
      have hD : va_D (va_A (WM bd cb u) s.heap.size) (WM bd cb z_4) := hD.sub [0, 1, 2, 3, 4, 5, 6, 7] (by decide) rfl
      refine lv_aload_n hx hb dX7_comes_42 rfl (lv_at hl 2 rfl) ?_
      refine lv_dup hx hb dX7_comes_43 rfl ?_
      refine va_get (D := (dC, dI)) (ci := 3) (v := .int z_4.2.2.2.2.2.2.2.2.2.2.2.2.2.2.2.2) (C := RX7) (T := TX7) (N := 17) hx hb hts hin7 hown hK hP 0 rfl rfl 16 (by decide) (hts (.fieldLink RX7 163 "SnapTableModel" "met" "I") (by decide +kernel)) (fun _ h9 => h9) rfl dX7_comes_44 ?_
      refine lv_lload hx hb dX7_comes_47 (lv_at hl 1 rfl) ?_
      refine lv_lload_n hx hb dX7_comes_49 rfl (lv_at hl 4 rfl) ?_
      refine W.lcmp hx hb dX7_comes_50 ?_
      refine lv_if_eq (tgt := 58) hx hb dX7_comes_51 (by decide) (fun c_5 => ?_) (fun c_5 => ?_)
      · refine lv_iconst (v := (0 : Int32)) hx hb dX7_comes_58 (by decide) ?_
        refine lv_iload hx hb dX7_comes_59 (lv_at hl 0 rfl) ?_
        refine lv_iload hx hb dX7_comes_61 (lv_at hl 5 rfl) ?_
        refine lv_icmp_eq (tgt := 70) hx hb dX7_comes_63 (by decide) (fun c_6 => ?_) (fun c_6 => ?_)
        · refine lv_iconst (v := (0 : Int32)) hx hb dX7_comes_70 (by decide) ?_
          refine lv_iadd hx hb dX7_comes_71 ?_
          refine lv_iadd hx hb dX7_comes_72 ?_
          refine va_put (D := (dC, dI)) (ci := 3) (v := .int (z_4.2.2.2.2.2.2.2.2.2.2.2.2.2.2.2.2 + ((0 : Int32) + (0 : Int32)))) (ty := .int) (C := RX7) (T := TX7) (N := 17) hx hb hts hin7 tyX7 tyX7_ok nmX7 hown hK hP hD hS 0 rfl rfl 16 (by decide) (hts (.fieldLink RX7 163 "SnapTableModel" "met" "I") (by decide +kernel)) (fun _ h9 => h9) rfl (by decide +kernel) rfl rfl (Nat.le_of_ble_eq_true rfl) dX7_comes_73 (fun H locs hP hD hS => ?_)
          have hP : va_P (dC, dI) vwCl (WM bd cb (z_4.1, z_4.2.1, z_4.2.2.1, z_4.2.2.2.1, z_4.2.2.2.2.1, z_4.2.2.2.2.2.1, z_4.2.2.2.2.2.2.1, z_4.2.2.2.2.2.2.2.1, z_4.2.2.2.2.2.2.2.2.1, z_4.2.2.2.2.2.2.2.2.2.1, z_4.2.2.2.2.2.2.2.2.2.2.1, z_4.2.2.2.2.2.2.2.2.2.2.2.1, z_4.2.2.2.2.2.2.2.2.2.2.2.2.1, z_4.2.2.2.2.2.2.2.2.2.2.2.2.2.1, z_4.2.2.2.2.2.2.2.2.2.2.2.2.2.2.1, z_4.2.2.2.2.2.2.2.2.2.2.2.2.2.2.2.1, (z_4.2.2.2.2.2.2.2.2.2.2.2.2.2.2.2.2 + ((0 : Int32) + (0 : Int32))))) H := hP
          have hD : va_D (va_A (WM bd cb u) s.heap.size) (WM bd cb (z_4.1, z_4.2.1, z_4.2.2.1, z_4.2.2.2.1, z_4.2.2.2.2.1, z_4.2.2.2.2.2.1, z_4.2.2.2.2.2.2.1, z_4.2.2.2.2.2.2.2.1, z_4.2.2.2.2.2.2.2.2.1, z_4.2.2.2.2.2.2.2.2.2.1, z_4.2.2.2.2.2.2.2.2.2.2.1, z_4.2.2.2.2.2.2.2.2.2.2.2.1, z_4.2.2.2.2.2.2.2.2.2.2.2.2.1, z_4.2.2.2.2.2.2.2.2.2.2.2.2.2.1, z_4.2.2.2.2.2.2.2.2.2.2.2.2.2.2.1, z_4.2.2.2.2.2.2.2.2.2.2.2.2.2.2.2.1, (z_4.2.2.2.2.2.2.2.2.2.2.2.2.2.2.2.2 + ((0 : Int32) + (0 : Int32))))) := hD
          refine lv_aload_n hx hb dX7_comes_76 rfl (lv_at hl 2 rfl) ?_
          refine va_get (D := (dC, dI)) (ci := 3) (v := .ref (bd 1)) (C := RX7) (T := TX7) (N := 17) hx hb hts hin7 hown hK hP 0 rfl rfl 0 (by decide) (hts (.fieldLink RX7 7 "SnapTableModel" "xs" "[J") (by decide +kernel)) (fun _ h9 => h9) rfl dX7_comes_77 ?_
          refine lv_iload_n hx hb dX7_comes_80 rfl (lv_at hl 3 rfl) ?_
          refine lv_lload hx hb dX7_comes_81 (lv_at hl 1 rfl) ?_
          refine va_last hx hb hK hP hD hS 1 0 rfl rfl (by first | with_reducible assumption | with_reducible exact pt_in (by with_reducible assumption) | with_reducible exact ptm_in (by with_reducible assumption) | exact LU.vin (B := 8) hm (by decide) (by with_reducible assumption) (by decide) | exact LU.vin (B := 4) hm (by decide) (by with_reducible assumption) (by decide) | exact LU.vin (B := 16) hm (by decide) (by with_reducible assumption) (by decide) | exact vp_in_nI (n := 0) (by decide) (by decide) | with_reducible exact gdm_in (by with_reducible assumption) (by with_reducible assumption) | with_reducible exact gd_in (by with_reducible assumption) (by with_reducible assumption)) dX7_comes_83 (fun H locs hP hD hS => ?_)
          have hP : va_P (dC, dI) vwCl (WM bd cb ((vp_updL z_4.1 a0.toNatClampNeg (mX7_walled u a1)), z_4.2.1, z_4.2.2.1, z_4.2.2.2.1, z_4.2.2.2.2.1, z_4.2.2.2.2.2.1, z_4.2.2.2.2.2.2.1, z_4.2.2.2.2.2.2.2.1, z_4.2.2.2.2.2.2.2.2.1, z_4.2.2.2.2.2.2.2.2.2.1, z_4.2.2.2.2.2.2.2.2.2.2.1, z_4.2.2.2.2.2.2.2.2.2.2.2.1, z_4.2.2.2.2.2.2.2.2.2.2.2.2.1, z_4.2.2.2.2.2.2.2.2.2.2.2.2.2.1, z_4.2.2.2.2.2.2.2.2.2.2.2.2.2.2.1, z_4.2.2.2.2.2.2.2.2.2.2.2.2.2.2.2.1, (z_4.2.2.2.2.2.2.2.2.2.2.2.2.2.2.2.2 + ((0 : Int32) + (0 : Int32))))) H := hP
          have hD : va_D (va_A (WM bd cb u) s.heap.size) (WM bd cb ((vp_updL z_4.1 a0.toNatClampNeg (mX7_walled u a1)), z_4.2.1, z_4.2.2.1, z_4.2.2.2.1, z_4.2.2.2.2.1, z_4.2.2.2.2.2.1, z_4.2.2.2.2.2.2.1, z_4.2.2.2.2.2.2.2.1, z_4.2.2.2.2.2.2.2.2.1, z_4.2.2.2.2.2.2.2.2.2.1, z_4.2.2.2.2.2.2.2.2.2.2.1, z_4.2.2.2.2.2.2.2.2.2.2.2.1, z_4.2.2.2.2.2.2.2.2.2.2.2.2.1, z_4.2.2.2.2.2.2.2.2.2.2.2.2.2.1, z_4.2.2.2.2.2.2.2.2.2.2.2.2.2.2.1, z_4.2.2.2.2.2.2.2.2.2.2.2.2.2.2.2.1, (z_4.2.2.2.2.2.2.2.2.2.2.2.2.2.2.2.2 + ((0 : Int32) + (0 : Int32))))) := hD
          refine lv_aload_n hx hb dX7_comes_84 rfl (lv_at hl 2 rfl) ?_
          refine va_get (D := (dC, dI)) (ci := 3) (v := .ref (bd 2)) (C := RX7) (T := TX7) (N := 17) hx hb hts hin7 hown hK hP 0 rfl rfl 1 (by decide) (hts (.fieldLink RX7 13 "SnapTableModel" "ys" "[I") (by decide +kernel)) (fun _ h9 => h9) rfl dX7_comes_85 ?_
          refine lv_iload_n hx hb dX7_comes_88 rfl (lv_at hl 3 rfl) ?_
          refine lv_iload hx hb dX7_comes_89 (lv_at hl 0 rfl) ?_
          refine va_iast hx hb hK hP hD hS 2 1 rfl rfl (by first | with_reducible assumption | with_reducible exact pt_in (by with_reducible assumption) | with_reducible exact ptm_in (by with_reducible assumption) | exact LU.vin (B := 8) hm (by decide) (by with_reducible assumption) (by decide) | exact LU.vin (B := 4) hm (by decide) (by with_reducible assumption) (by decide) | exact LU.vin (B := 16) hm (by decide) (by with_reducible assumption) (by decide) | exact vp_in_nI (n := 0) (by decide) (by decide) | with_reducible exact gdm_in (by with_reducible assumption) (by with_reducible assumption) | with_reducible exact gd_in (by with_reducible assumption) (by with_reducible assumption)) dX7_comes_91 (fun H locs hP hD hS => ?_)
          have hP : va_P (dC, dI) vwCl (WM bd cb ((vp_updL z_4.1 a0.toNatClampNeg (mX7_walled u a1)), (upd z_4.2.1 a0.toNatClampNeg (mX7_railed u a2)), z_4.2.2.1, z_4.2.2.2.1, z_4.2.2.2.2.1, z_4.2.2.2.2.2.1, z_4.2.2.2.2.2.2.1, z_4.2.2.2.2.2.2.2.1, z_4.2.2.2.2.2.2.2.2.1, z_4.2.2.2.2.2.2.2.2.2.1, z_4.2.2.2.2.2.2.2.2.2.2.1, z_4.2.2.2.2.2.2.2.2.2.2.2.1, z_4.2.2.2.2.2.2.2.2.2.2.2.2.1, z_4.2.2.2.2.2.2.2.2.2.2.2.2.2.1, z_4.2.2.2.2.2.2.2.2.2.2.2.2.2.2.1, z_4.2.2.2.2.2.2.2.2.2.2.2.2.2.2.2.1, (z_4.2.2.2.2.2.2.2.2.2.2.2.2.2.2.2.2 + ((0 : Int32) + (0 : Int32))))) H := hP
          have hD : va_D (va_A (WM bd cb u) s.heap.size) (WM bd cb ((vp_updL z_4.1 a0.toNatClampNeg (mX7_walled u a1)), (upd z_4.2.1 a0.toNatClampNeg (mX7_railed u a2)), z_4.2.2.1, z_4.2.2.2.1, z_4.2.2.2.2.1, z_4.2.2.2.2.2.1, z_4.2.2.2.2.2.2.1, z_4.2.2.2.2.2.2.2.1, z_4.2.2.2.2.2.2.2.2.1, z_4.2.2.2.2.2.2.2.2.2.1, z_4.2.2.2.2.2.2.2.2.2.2.1, z_4.2.2.2.2.2.2.2.2.2.2.2.1, z_4.2.2.2.2.2.2.2.2.2.2.2.2.1, z_4.2.2.2.2.2.2.2.2.2.2.2.2.2.1, z_4.2.2.2.2.2.2.2.2.2.2.2.2.2.2.1, z_4.2.2.2.2.2.2.2.2.2.2.2.2.2.2.2.1, (z_4.2.2.2.2.2.2.2.2.2.2.2.2.2.2.2.2 + ((0 : Int32) + (0 : Int32))))) := hD
          refine lv_aload_n hx hb dX7_comes_92 rfl (lv_at hl 2 rfl) ?_
          refine hc_M (C := RX7) (ci := 3) (T := TX7) (N := 17) (As := []) (rest := []) ⟨hx, hb, hml, hown, hts⟩ (ct_X7_does l dC dI bd cb _ ((vp_updL z_4.1 a0.toNatClampNeg (mX7_walled u a1)), (upd z_4.2.1 a0.toNatClampNeg (mX7_railed u a2)), z_4.2.2.1, z_4.2.2.2.1, z_4.2.2.2.2.1, z_4.2.2.2.2.2.1, z_4.2.2.2.2.2.2.1, z_4.2.2.2.2.2.2.2.1, z_4.2.2.2.2.2.2.2.2.1, z_4.2.2.2.2.2.2.2.2.2.1, z_4.2.2.2.2.2.2.2.2.2.2.1, z_4.2.2.2.2.2.2.2.2.2.2.2.1, z_4.2.2.2.2.2.2.2.2.2.2.2.2.1, z_4.2.2.2.2.2.2.2.2.2.2.2.2.2.1, z_4.2.2.2.2.2.2.2.2.2.2.2.2.2.2.1, z_4.2.2.2.2.2.2.2.2.2.2.2.2.2.2.2.1, (z_4.2.2.2.2.2.2.2.2.2.2.2.2.2.2.2.2 + ((0 : Int32) + (0 : Int32))))) (cwV 0 hts gX7_comes_X7_does rfl rfl rfl (by decide +kernel) ⟨Nat.le_of_ble_eq_true rfl, Nat.le_of_ble_eq_true rfl⟩) hP hD (hK.sub [0, 1, 2, 3, 4, 5, 6] rfl) hNW hS hA [0, 1, 2, 3, 4, 5, 6, 7] [] rfl (wr := []) rfl (by decide) (by decide) (by decide) rfl rfl rfl hl.1 rfl (Nat.le_of_ble_eq_true rfl) dX7_comes_93 ⟨Nat.le_of_ble_eq_true rfl, Nat.le_of_ble_eq_true rfl⟩ (fun H locs hP hD hS => ?_)
          generalize hz_7 : mX7_does ((vp_updL z_4.1 a0.toNatClampNeg (mX7_walled u a1)), (upd z_4.2.1 a0.toNatClampNeg (mX7_railed u a2)), z_4.2.2.1, z_4.2.2.2.1, z_4.2.2.2.2.1, z_4.2.2.2.2.2.1, z_4.2.2.2.2.2.2.1, z_4.2.2.2.2.2.2.2.1, z_4.2.2.2.2.2.2.2.2.1, z_4.2.2.2.2.2.2.2.2.2.1, z_4.2.2.2.2.2.2.2.2.2.2.1, z_4.2.2.2.2.2.2.2.2.2.2.2.1, z_4.2.2.2.2.2.2.2.2.2.2.2.2.1, z_4.2.2.2.2.2.2.2.2.2.2.2.2.2.1, z_4.2.2.2.2.2.2.2.2.2.2.2.2.2.2.1, z_4.2.2.2.2.2.2.2.2.2.2.2.2.2.2.2.1, (z_4.2.2.2.2.2.2.2.2.2.2.2.2.2.2.2.2 + ((0 : Int32) + (0 : Int32)))) = z_7 at hP hD ⊢
          have hP : va_P (dC, dI) vwCl (WM bd cb z_7.2) H := hP.sub [0, 1, 2, 3, 4, 5, 6, 7] rfl
          have hD : va_D (va_A (WM bd cb u) s.heap.size) (WM bd cb z_7.2) := hD.sub [0, 1, 2, 3, 4, 5, 6, 7] (by decide) rfl
          refine W.eq (g2 := F0 m 96 ls (.int z_7.1 :: [])) rfl ?_
          have he : mX7_comes u a0 a1 a2 = (z_7.1, z_7.2) := by rw [mX7_comes, if_pos c_1, if_pos c_3, hz_4, if_pos c_5, if_pos c_6, hz_7]
          exact rM_i hx hb hr hlocks hP hD hS (by rw [he]) (by rw [he]) dX7_comes_96
        · refine lv_iconst (v := (1 : Int32)) hx hb dX7_comes_66 (by decide) ?_
          refine lv_goto (tgt := 71) hx hb dX7_comes_67 (by decide) ?_
          refine lv_iadd hx hb dX7_comes_71 ?_
          refine lv_iadd hx hb dX7_comes_72 ?_
          refine va_put (D := (dC, dI)) (ci := 3) (v := .int (z_4.2.2.2.2.2.2.2.2.2.2.2.2.2.2.2.2 + ((0 : Int32) + (1 : Int32)))) (ty := .int) (C := RX7) (T := TX7) (N := 17) hx hb hts hin7 tyX7 tyX7_ok nmX7 hown hK hP hD hS 0 rfl rfl 16 (by decide) (hts (.fieldLink RX7 163 "SnapTableModel" "met" "I") (by decide +kernel)) (fun _ h9 => h9) rfl (by decide +kernel) rfl rfl (Nat.le_of_ble_eq_true rfl) dX7_comes_73 (fun H locs hP hD hS => ?_)
          have hP : va_P (dC, dI) vwCl (WM bd cb (z_4.1, z_4.2.1, z_4.2.2.1, z_4.2.2.2.1, z_4.2.2.2.2.1, z_4.2.2.2.2.2.1, z_4.2.2.2.2.2.2.1, z_4.2.2.2.2.2.2.2.1, z_4.2.2.2.2.2.2.2.2.1, z_4.2.2.2.2.2.2.2.2.2.1, z_4.2.2.2.2.2.2.2.2.2.2.1, z_4.2.2.2.2.2.2.2.2.2.2.2.1, z_4.2.2.2.2.2.2.2.2.2.2.2.2.1, z_4.2.2.2.2.2.2.2.2.2.2.2.2.2.1, z_4.2.2.2.2.2.2.2.2.2.2.2.2.2.2.1, z_4.2.2.2.2.2.2.2.2.2.2.2.2.2.2.2.1, (z_4.2.2.2.2.2.2.2.2.2.2.2.2.2.2.2.2 + ((0 : Int32) + (1 : Int32))))) H := hP
          have hD : va_D (va_A (WM bd cb u) s.heap.size) (WM bd cb (z_4.1, z_4.2.1, z_4.2.2.1, z_4.2.2.2.1, z_4.2.2.2.2.1, z_4.2.2.2.2.2.1, z_4.2.2.2.2.2.2.1, z_4.2.2.2.2.2.2.2.1, z_4.2.2.2.2.2.2.2.2.1, z_4.2.2.2.2.2.2.2.2.2.1, z_4.2.2.2.2.2.2.2.2.2.2.1, z_4.2.2.2.2.2.2.2.2.2.2.2.1, z_4.2.2.2.2.2.2.2.2.2.2.2.2.1, z_4.2.2.2.2.2.2.2.2.2.2.2.2.2.1, z_4.2.2.2.2.2.2.2.2.2.2.2.2.2.2.1, z_4.2.2.2.2.2.2.2.2.2.2.2.2.2.2.2.1, (z_4.2.2.2.2.2.2.2.2.2.2.2.2.2.2.2.2 + ((0 : Int32) + (1 : Int32))))) := hD
          refine lv_aload_n hx hb dX7_comes_76 rfl (lv_at hl 2 rfl) ?_
          refine va_get (D := (dC, dI)) (ci := 3) (v := .ref (bd 1)) (C := RX7) (T := TX7) (N := 17) hx hb hts hin7 hown hK hP 0 rfl rfl 0 (by decide) (hts (.fieldLink RX7 7 "SnapTableModel" "xs" "[J") (by decide +kernel)) (fun _ h9 => h9) rfl dX7_comes_77 ?_
          refine lv_iload_n hx hb dX7_comes_80 rfl (lv_at hl 3 rfl) ?_
          refine lv_lload hx hb dX7_comes_81 (lv_at hl 1 rfl) ?_
          refine va_last hx hb hK hP hD hS 1 0 rfl rfl (by first | with_reducible assumption | with_reducible exact pt_in (by with_reducible assumption) | with_reducible exact ptm_in (by with_reducible assumption) | exact LU.vin (B := 8) hm (by decide) (by with_reducible assumption) (by decide) | exact LU.vin (B := 4) hm (by decide) (by with_reducible assumption) (by decide) | exact LU.vin (B := 16) hm (by decide) (by with_reducible assumption) (by decide) | exact vp_in_nI (n := 0) (by decide) (by decide) | with_reducible exact gdm_in (by with_reducible assumption) (by with_reducible assumption) | with_reducible exact gd_in (by with_reducible assumption) (by with_reducible assumption)) dX7_comes_83 (fun H locs hP hD hS => ?_)
          have hP : va_P (dC, dI) vwCl (WM bd cb ((vp_updL z_4.1 a0.toNatClampNeg (mX7_walled u a1)), z_4.2.1, z_4.2.2.1, z_4.2.2.2.1, z_4.2.2.2.2.1, z_4.2.2.2.2.2.1, z_4.2.2.2.2.2.2.1, z_4.2.2.2.2.2.2.2.1, z_4.2.2.2.2.2.2.2.2.1, z_4.2.2.2.2.2.2.2.2.2.1, z_4.2.2.2.2.2.2.2.2.2.2.1, z_4.2.2.2.2.2.2.2.2.2.2.2.1, z_4.2.2.2.2.2.2.2.2.2.2.2.2.1, z_4.2.2.2.2.2.2.2.2.2.2.2.2.2.1, z_4.2.2.2.2.2.2.2.2.2.2.2.2.2.2.1, z_4.2.2.2.2.2.2.2.2.2.2.2.2.2.2.2.1, (z_4.2.2.2.2.2.2.2.2.2.2.2.2.2.2.2.2 + ((0 : Int32) + (1 : Int32))))) H := hP
          have hD : va_D (va_A (WM bd cb u) s.heap.size) (WM bd cb ((vp_updL z_4.1 a0.toNatClampNeg (mX7_walled u a1)), z_4.2.1, z_4.2.2.1, z_4.2.2.2.1, z_4.2.2.2.2.1, z_4.2.2.2.2.2.1, z_4.2.2.2.2.2.2.1, z_4.2.2.2.2.2.2.2.1, z_4.2.2.2.2.2.2.2.2.1, z_4.2.2.2.2.2.2.2.2.2.1, z_4.2.2.2.2.2.2.2.2.2.2.1, z_4.2.2.2.2.2.2.2.2.2.2.2.1, z_4.2.2.2.2.2.2.2.2.2.2.2.2.1, z_4.2.2.2.2.2.2.2.2.2.2.2.2.2.1, z_4.2.2.2.2.2.2.2.2.2.2.2.2.2.2.1, z_4.2.2.2.2.2.2.2.2.2.2.2.2.2.2.2.1, (z_4.2.2.2.2.2.2.2.2.2.2.2.2.2.2.2.2 + ((0 : Int32) + (1 : Int32))))) := hD
          refine lv_aload_n hx hb dX7_comes_84 rfl (lv_at hl 2 rfl) ?_
          refine va_get (D := (dC, dI)) (ci := 3) (v := .ref (bd 2)) (C := RX7) (T := TX7) (N := 17) hx hb hts hin7 hown hK hP 0 rfl rfl 1 (by decide) (hts (.fieldLink RX7 13 "SnapTableModel" "ys" "[I") (by decide +kernel)) (fun _ h9 => h9) rfl dX7_comes_85 ?_
          refine lv_iload_n hx hb dX7_comes_88 rfl (lv_at hl 3 rfl) ?_
          refine lv_iload hx hb dX7_comes_89 (lv_at hl 0 rfl) ?_
          refine va_iast hx hb hK hP hD hS 2 1 rfl rfl (by first | with_reducible assumption | with_reducible exact pt_in (by with_reducible assumption) | with_reducible exact ptm_in (by with_reducible assumption) | exact LU.vin (B := 8) hm (by decide) (by with_reducible assumption) (by decide) | exact LU.vin (B := 4) hm (by decide) (by with_reducible assumption) (by decide) | exact LU.vin (B := 16) hm (by decide) (by with_reducible assumption) (by decide) | exact vp_in_nI (n := 0) (by decide) (by decide) | with_reducible exact gdm_in (by with_reducible assumption) (by with_reducible assumption) | with_reducible exact gd_in (by with_reducible assumption) (by with_reducible assumption)) dX7_comes_91 (fun H locs hP hD hS => ?_)
          have hP : va_P (dC, dI) vwCl (WM bd cb ((vp_updL z_4.1 a0.toNatClampNeg (mX7_walled u a1)), (upd z_4.2.1 a0.toNatClampNeg (mX7_railed u a2)), z_4.2.2.1, z_4.2.2.2.1, z_4.2.2.2.2.1, z_4.2.2.2.2.2.1, z_4.2.2.2.2.2.2.1, z_4.2.2.2.2.2.2.2.1, z_4.2.2.2.2.2.2.2.2.1, z_4.2.2.2.2.2.2.2.2.2.1, z_4.2.2.2.2.2.2.2.2.2.2.1, z_4.2.2.2.2.2.2.2.2.2.2.2.1, z_4.2.2.2.2.2.2.2.2.2.2.2.2.1, z_4.2.2.2.2.2.2.2.2.2.2.2.2.2.1, z_4.2.2.2.2.2.2.2.2.2.2.2.2.2.2.1, z_4.2.2.2.2.2.2.2.2.2.2.2.2.2.2.2.1, (z_4.2.2.2.2.2.2.2.2.2.2.2.2.2.2.2.2 + ((0 : Int32) + (1 : Int32))))) H := hP
          have hD : va_D (va_A (WM bd cb u) s.heap.size) (WM bd cb ((vp_updL z_4.1 a0.toNatClampNeg (mX7_walled u a1)), (upd z_4.2.1 a0.toNatClampNeg (mX7_railed u a2)), z_4.2.2.1, z_4.2.2.2.1, z_4.2.2.2.2.1, z_4.2.2.2.2.2.1, z_4.2.2.2.2.2.2.1, z_4.2.2.2.2.2.2.2.1, z_4.2.2.2.2.2.2.2.2.1, z_4.2.2.2.2.2.2.2.2.2.1, z_4.2.2.2.2.2.2.2.2.2.2.1, z_4.2.2.2.2.2.2.2.2.2.2.2.1, z_4.2.2.2.2.2.2.2.2.2.2.2.2.1, z_4.2.2.2.2.2.2.2.2.2.2.2.2.2.1, z_4.2.2.2.2.2.2.2.2.2.2.2.2.2.2.1, z_4.2.2.2.2.2.2.2.2.2.2.2.2.2.2.2.1, (z_4.2.2.2.2.2.2.2.2.2.2.2.2.2.2.2.2 + ((0 : Int32) + (1 : Int32))))) := hD
          refine lv_aload_n hx hb dX7_comes_92 rfl (lv_at hl 2 rfl) ?_
          refine hc_M (C := RX7) (ci := 3) (T := TX7) (N := 17) (As := []) (rest := []) ⟨hx, hb, hml, hown, hts⟩ (ct_X7_does l dC dI bd cb _ ((vp_updL z_4.1 a0.toNatClampNeg (mX7_walled u a1)), (upd z_4.2.1 a0.toNatClampNeg (mX7_railed u a2)), z_4.2.2.1, z_4.2.2.2.1, z_4.2.2.2.2.1, z_4.2.2.2.2.2.1, z_4.2.2.2.2.2.2.1, z_4.2.2.2.2.2.2.2.1, z_4.2.2.2.2.2.2.2.2.1, z_4.2.2.2.2.2.2.2.2.2.1, z_4.2.2.2.2.2.2.2.2.2.2.1, z_4.2.2.2.2.2.2.2.2.2.2.2.1, z_4.2.2.2.2.2.2.2.2.2.2.2.2.1, z_4.2.2.2.2.2.2.2.2.2.2.2.2.2.1, z_4.2.2.2.2.2.2.2.2.2.2.2.2.2.2.1, z_4.2.2.2.2.2.2.2.2.2.2.2.2.2.2.2.1, (z_4.2.2.2.2.2.2.2.2.2.2.2.2.2.2.2.2 + ((0 : Int32) + (1 : Int32))))) (cwV 0 hts gX7_comes_X7_does rfl rfl rfl (by decide +kernel) ⟨Nat.le_of_ble_eq_true rfl, Nat.le_of_ble_eq_true rfl⟩) hP hD (hK.sub [0, 1, 2, 3, 4, 5, 6] rfl) hNW hS hA [0, 1, 2, 3, 4, 5, 6, 7] [] rfl (wr := []) rfl (by decide) (by decide) (by decide) rfl rfl rfl hl.1 rfl (Nat.le_of_ble_eq_true rfl) dX7_comes_93 ⟨Nat.le_of_ble_eq_true rfl, Nat.le_of_ble_eq_true rfl⟩ (fun H locs hP hD hS => ?_)
          generalize hz_8 : mX7_does ((vp_updL z_4.1 a0.toNatClampNeg (mX7_walled u a1)), (upd z_4.2.1 a0.toNatClampNeg (mX7_railed u a2)), z_4.2.2.1, z_4.2.2.2.1, z_4.2.2.2.2.1, z_4.2.2.2.2.2.1, z_4.2.2.2.2.2.2.1, z_4.2.2.2.2.2.2.2.1, z_4.2.2.2.2.2.2.2.2.1, z_4.2.2.2.2.2.2.2.2.2.1, z_4.2.2.2.2.2.2.2.2.2.2.1, z_4.2.2.2.2.2.2.2.2.2.2.2.1, z_4.2.2.2.2.2.2.2.2.2.2.2.2.1, z_4.2.2.2.2.2.2.2.2.2.2.2.2.2.1, z_4.2.2.2.2.2.2.2.2.2.2.2.2.2.2.1, z_4.2.2.2.2.2.2.2.2.2.2.2.2.2.2.2.1, (z_4.2.2.2.2.2.2.2.2.2.2.2.2.2.2.2.2 + ((0 : Int32) + (1 : Int32)))) = z_8 at hP hD ⊢
          have hP : va_P (dC, dI) vwCl (WM bd cb z_8.2) H := hP.sub [0, 1, 2, 3, 4, 5, 6, 7] rfl
          have hD : va_D (va_A (WM bd cb u) s.heap.size) (WM bd cb z_8.2) := hD.sub [0, 1, 2, 3, 4, 5, 6, 7] (by decide) rfl
          refine W.eq (g2 := F0 m 96 ls (.int z_8.1 :: [])) rfl ?_
          have he : mX7_comes u a0 a1 a2 = (z_8.1, z_8.2) := by rw [mX7_comes, if_pos c_1, if_pos c_3, hz_4, if_pos c_5, if_neg c_6, hz_8]
          exact rM_i hx hb hr hlocks hP hD hS (by rw [he]) (by rw [he]) dX7_comes_96
      · refine lv_iconst (v := (1 : Int32)) hx hb dX7_comes_54 (by decide) ?_
        refine lv_goto (tgt := 59) hx hb dX7_comes_55 (by decide) ?_
        refine lv_iload hx hb dX7_comes_59 (lv_at hl 0 rfl) ?_
        refine lv_iload hx hb dX7_comes_61 (lv_at hl 5 rfl) ?_
        refine lv_icmp_eq (tgt := 70) hx hb dX7_comes_63 (by decide) (fun c_9 => ?_) (fun c_9 => ?_)
        · refine lv_iconst (v := (0 : Int32)) hx hb dX7_comes_70 (by decide) ?_
          refine lv_iadd hx hb dX7_comes_71 ?_
          refine lv_iadd hx hb dX7_comes_72 ?_
          refine va_put (D := (dC, dI)) (ci := 3) (v := .int (z_4.2.2.2.2.2.2.2.2.2.2.2.2.2.2.2.2 + ((1 : Int32) + (0 : Int32)))) (ty := .int) (C := RX7) (T := TX7) (N := 17) hx hb hts hin7 tyX7 tyX7_ok nmX7 hown hK hP hD hS 0 rfl rfl 16 (by decide) (hts (.fieldLink RX7 163 "SnapTableModel" "met" "I") (by decide +kernel)) (fun _ h9 => h9) rfl (by decide +kernel) rfl rfl (Nat.le_of_ble_eq_true rfl) dX7_comes_73 (fun H locs hP hD hS => ?_)
          have hP : va_P (dC, dI) vwCl (WM bd cb (z_4.1, z_4.2.1, z_4.2.2.1, z_4.2.2.2.1, z_4.2.2.2.2.1, z_4.2.2.2.2.2.1, z_4.2.2.2.2.2.2.1, z_4.2.2.2.2.2.2.2.1, z_4.2.2.2.2.2.2.2.2.1, z_4.2.2.2.2.2.2.2.2.2.1, z_4.2.2.2.2.2.2.2.2.2.2.1, z_4.2.2.2.2.2.2.2.2.2.2.2.1, z_4.2.2.2.2.2.2.2.2.2.2.2.2.1, z_4.2.2.2.2.2.2.2.2.2.2.2.2.2.1, z_4.2.2.2.2.2.2.2.2.2.2.2.2.2.2.1, z_4.2.2.2.2.2.2.2.2.2.2.2.2.2.2.2.1, (z_4.2.2.2.2.2.2.2.2.2.2.2.2.2.2.2.2 + ((1 : Int32) + (0 : Int32))))) H := hP
          have hD : va_D (va_A (WM bd cb u) s.heap.size) (WM bd cb (z_4.1, z_4.2.1, z_4.2.2.1, z_4.2.2.2.1, z_4.2.2.2.2.1, z_4.2.2.2.2.2.1, z_4.2.2.2.2.2.2.1, z_4.2.2.2.2.2.2.2.1, z_4.2.2.2.2.2.2.2.2.1, z_4.2.2.2.2.2.2.2.2.2.1, z_4.2.2.2.2.2.2.2.2.2.2.1, z_4.2.2.2.2.2.2.2.2.2.2.2.1, z_4.2.2.2.2.2.2.2.2.2.2.2.2.1, z_4.2.2.2.2.2.2.2.2.2.2.2.2.2.1, z_4.2.2.2.2.2.2.2.2.2.2.2.2.2.2.1, z_4.2.2.2.2.2.2.2.2.2.2.2.2.2.2.2.1, (z_4.2.2.2.2.2.2.2.2.2.2.2.2.2.2.2.2 + ((1 : Int32) + (0 : Int32))))) := hD
          refine lv_aload_n hx hb dX7_comes_76 rfl (lv_at hl 2 rfl) ?_
          refine va_get (D := (dC, dI)) (ci := 3) (v := .ref (bd 1)) (C := RX7) (T := TX7) (N := 17) hx hb hts hin7 hown hK hP 0 rfl rfl 0 (by decide) (hts (.fieldLink RX7 7 "SnapTableModel" "xs" "[J") (by decide +kernel)) (fun _ h9 => h9) rfl dX7_comes_77 ?_
          refine lv_iload_n hx hb dX7_comes_80 rfl (lv_at hl 3 rfl) ?_
          refine lv_lload hx hb dX7_comes_81 (lv_at hl 1 rfl) ?_
          refine va_last hx hb hK hP hD hS 1 0 rfl rfl (by first | with_reducible assumption | with_reducible exact pt_in (by with_reducible assumption) | with_reducible exact ptm_in (by with_reducible assumption) | exact LU.vin (B := 8) hm (by decide) (by with_reducible assumption) (by decide) | exact LU.vin (B := 4) hm (by decide) (by with_reducible assumption) (by decide) | exact LU.vin (B := 16) hm (by decide) (by with_reducible assumption) (by decide) | exact vp_in_nI (n := 0) (by decide) (by decide) | with_reducible exact gdm_in (by with_reducible assumption) (by with_reducible assumption) | with_reducible exact gd_in (by with_reducible assumption) (by with_reducible assumption)) dX7_comes_83 (fun H locs hP hD hS => ?_)
          have hP : va_P (dC, dI) vwCl (WM bd cb ((vp_updL z_4.1 a0.toNatClampNeg (mX7_walled u a1)), z_4.2.1, z_4.2.2.1, z_4.2.2.2.1, z_4.2.2.2.2.1, z_4.2.2.2.2.2.1, z_4.2.2.2.2.2.2.1, z_4.2.2.2.2.2.2.2.1, z_4.2.2.2.2.2.2.2.2.1, z_4.2.2.2.2.2.2.2.2.2.1, z_4.2.2.2.2.2.2.2.2.2.2.1, z_4.2.2.2.2.2.2.2.2.2.2.2.1, z_4.2.2.2.2.2.2.2.2.2.2.2.2.1, z_4.2.2.2.2.2.2.2.2.2.2.2.2.2.1, z_4.2.2.2.2.2.2.2.2.2.2.2.2.2.2.1, z_4.2.2.2.2.2.2.2.2.2.2.2.2.2.2.2.1, (z_4.2.2.2.2.2.2.2.2.2.2.2.2.2.2.2.2 + ((1 : Int32) + (0 : Int32))))) H := hP
          have hD : va_D (va_A (WM bd cb u) s.heap.size) (WM bd cb ((vp_updL z_4.1 a0.toNatClampNeg (mX7_walled u a1)), z_4.2.1, z_4.2.2.1, z_4.2.2.2.1, z_4.2.2.2.2.1, z_4.2.2.2.2.2.1, z_4.2.2.2.2.2.2.1, z_4.2.2.2.2.2.2.2.1, z_4.2.2.2.2.2.2.2.2.1, z_4.2.2.2.2.2.2.2.2.2.1, z_4.2.2.2.2.2.2.2.2.2.2.1, z_4.2.2.2.2.2.2.2.2.2.2.2.1, z_4.2.2.2.2.2.2.2.2.2.2.2.2.1, z_4.2.2.2.2.2.2.2.2.2.2.2.2.2.1, z_4.2.2.2.2.2.2.2.2.2.2.2.2.2.2.1, z_4.2.2.2.2.2.2.2.2.2.2.2.2.2.2.2.1, (z_4.2.2.2.2.2.2.2.2.2.2.2.2.2.2.2.2 + ((1 : Int32) + (0 : Int32))))) := hD
          refine lv_aload_n hx hb dX7_comes_84 rfl (lv_at hl 2 rfl) ?_
          refine va_get (D := (dC, dI)) (ci := 3) (v := .ref (bd 2)) (C := RX7) (T := TX7) (N := 17) hx hb hts hin7 hown hK hP 0 rfl rfl 1 (by decide) (hts (.fieldLink RX7 13 "SnapTableModel" "ys" "[I") (by decide +kernel)) (fun _ h9 => h9) rfl dX7_comes_85 ?_
          refine lv_iload_n hx hb dX7_comes_88 rfl (lv_at hl 3 rfl) ?_
          refine lv_iload hx hb dX7_comes_89 (lv_at hl 0 rfl) ?_
          refine va_iast hx hb hK hP hD hS 2 1 rfl rfl (by first | with_reducible assumption | with_reducible exact pt_in (by with_reducible assumption) | with_reducible exact ptm_in (by with_reducible assumption) | exact LU.vin (B := 8) hm (by decide) (by with_reducible assumption) (by decide) | exact LU.vin (B := 4) hm (by decide) (by with_reducible assumption) (by decide) | exact LU.vin (B := 16) hm (by decide) (by with_reducible assumption) (by decide) | exact vp_in_nI (n := 0) (by decide) (by decide) | with_reducible exact gdm_in (by with_reducible assumption) (by with_reducible assumption) | with_reducible exact gd_in (by with_reducible assumption) (by with_reducible assumption)) dX7_comes_91 (fun H locs hP hD hS => ?_)
          have hP : va_P (dC, dI) vwCl (WM bd cb ((vp_updL z_4.1 a0.toNatClampNeg (mX7_walled u a1)), (upd z_4.2.1 a0.toNatClampNeg (mX7_railed u a2)), z_4.2.2.1, z_4.2.2.2.1, z_4.2.2.2.2.1, z_4.2.2.2.2.2.1, z_4.2.2.2.2.2.2.1, z_4.2.2.2.2.2.2.2.1, z_4.2.2.2.2.2.2.2.2.1, z_4.2.2.2.2.2.2.2.2.2.1, z_4.2.2.2.2.2.2.2.2.2.2.1, z_4.2.2.2.2.2.2.2.2.2.2.2.1, z_4.2.2.2.2.2.2.2.2.2.2.2.2.1, z_4.2.2.2.2.2.2.2.2.2.2.2.2.2.1, z_4.2.2.2.2.2.2.2.2.2.2.2.2.2.2.1, z_4.2.2.2.2.2.2.2.2.2.2.2.2.2.2.2.1, (z_4.2.2.2.2.2.2.2.2.2.2.2.2.2.2.2.2 + ((1 : Int32) + (0 : Int32))))) H := hP
          have hD : va_D (va_A (WM bd cb u) s.heap.size) (WM bd cb ((vp_updL z_4.1 a0.toNatClampNeg (mX7_walled u a1)), (upd z_4.2.1 a0.toNatClampNeg (mX7_railed u a2)), z_4.2.2.1, z_4.2.2.2.1, z_4.2.2.2.2.1, z_4.2.2.2.2.2.1, z_4.2.2.2.2.2.2.1, z_4.2.2.2.2.2.2.2.1, z_4.2.2.2.2.2.2.2.2.1, z_4.2.2.2.2.2.2.2.2.2.1, z_4.2.2.2.2.2.2.2.2.2.2.1, z_4.2.2.2.2.2.2.2.2.2.2.2.1, z_4.2.2.2.2.2.2.2.2.2.2.2.2.1, z_4.2.2.2.2.2.2.2.2.2.2.2.2.2.1, z_4.2.2.2.2.2.2.2.2.2.2.2.2.2.2.1, z_4.2.2.2.2.2.2.2.2.2.2.2.2.2.2.2.1, (z_4.2.2.2.2.2.2.2.2.2.2.2.2.2.2.2.2 + ((1 : Int32) + (0 : Int32))))) := hD
          refine lv_aload_n hx hb dX7_comes_92 rfl (lv_at hl 2 rfl) ?_
          refine hc_M (C := RX7) (ci := 3) (T := TX7) (N := 17) (As := []) (rest := []) ⟨hx, hb, hml, hown, hts⟩ (ct_X7_does l dC dI bd cb _ ((vp_updL z_4.1 a0.toNatClampNeg (mX7_walled u a1)), (upd z_4.2.1 a0.toNatClampNeg (mX7_railed u a2)), z_4.2.2.1, z_4.2.2.2.1, z_4.2.2.2.2.1, z_4.2.2.2.2.2.1, z_4.2.2.2.2.2.2.1, z_4.2.2.2.2.2.2.2.1, z_4.2.2.2.2.2.2.2.2.1, z_4.2.2.2.2.2.2.2.2.2.1, z_4.2.2.2.2.2.2.2.2.2.2.1, z_4.2.2.2.2.2.2.2.2.2.2.2.1, z_4.2.2.2.2.2.2.2.2.2.2.2.2.1, z_4.2.2.2.2.2.2.2.2.2.2.2.2.2.1, z_4.2.2.2.2.2.2.2.2.2.2.2.2.2.2.1, z_4.2.2.2.2.2.2.2.2.2.2.2.2.2.2.2.1, (z_4.2.2.2.2.2.2.2.2.2.2.2.2.2.2.2.2 + ((1 : Int32) + (0 : Int32))))) (cwV 0 hts gX7_comes_X7_does rfl rfl rfl (by decide +kernel) ⟨Nat.le_of_ble_eq_true rfl, Nat.le_of_ble_eq_true rfl⟩) hP hD (hK.sub [0, 1, 2, 3, 4, 5, 6] rfl) hNW hS hA [0, 1, 2, 3, 4, 5, 6, 7] [] rfl (wr := []) rfl (by decide) (by decide) (by decide) rfl rfl rfl hl.1 rfl (Nat.le_of_ble_eq_true rfl) dX7_comes_93 ⟨Nat.le_of_ble_eq_true rfl, Nat.le_of_ble_eq_true rfl⟩ (fun H locs hP hD hS => ?_)
          generalize hz_10 : mX7_does ((vp_updL z_4.1 a0.toNatClampNeg (mX7_walled u a1)), (upd z_4.2.1 a0.toNatClampNeg (mX7_railed u a2)), z_4.2.2.1, z_4.2.2.2.1, z_4.2.2.2.2.1, z_4.2.2.2.2.2.1, z_4.2.2.2.2.2.2.1, z_4.2.2.2.2.2.2.2.1, z_4.2.2.2.2.2.2.2.2.1, z_4.2.2.2.2.2.2.2.2.2.1, z_4.2.2.2.2.2.2.2.2.2.2.1, z_4.2.2.2.2.2.2.2.2.2.2.2.1, z_4.2.2.2.2.2.2.2.2.2.2.2.2.1, z_4.2.2.2.2.2.2.2.2.2.2.2.2.2.1, z_4.2.2.2.2.2.2.2.2.2.2.2.2.2.2.1, z_4.2.2.2.2.2.2.2.2.2.2.2.2.2.2.2.1, (z_4.2.2.2.2.2.2.2.2.2.2.2.2.2.2.2.2 + ((1 : Int32) + (0 : Int32)))) = z_10 at hP hD ⊢
          have hP : va_P (dC, dI) vwCl (WM bd cb z_10.2) H := hP.sub [0, 1, 2, 3, 4, 5, 6, 7] rfl
          have hD : va_D (va_A (WM bd cb u) s.heap.size) (WM bd cb z_10.2) := hD.sub [0, 1, 2, 3, 4, 5, 6, 7] (by decide) rfl
          refine W.eq (g2 := F0 m 96 ls (.int z_10.1 :: [])) rfl ?_
          have he : mX7_comes u a0 a1 a2 = (z_10.1, z_10.2) := by rw [mX7_comes, if_pos c_1, if_pos c_3, hz_4, if_neg c_5, if_pos c_9, hz_10]
          exact rM_i hx hb hr hlocks hP hD hS (by rw [he]) (by rw [he]) dX7_comes_96
        · refine lv_iconst (v := (1 : Int32)) hx hb dX7_comes_66 (by decide) ?_
          refine lv_goto (tgt := 71) hx hb dX7_comes_67 (by decide) ?_
          refine lv_iadd hx hb dX7_comes_71 ?_
          refine lv_iadd hx hb dX7_comes_72 ?_
          refine va_put (D := (dC, dI)) (ci := 3) (v := .int (z_4.2.2.2.2.2.2.2.2.2.2.2.2.2.2.2.2 + ((1 : Int32) + (1 : Int32)))) (ty := .int) (C := RX7) (T := TX7) (N := 17) hx hb hts hin7 tyX7 tyX7_ok nmX7 hown hK hP hD hS 0 rfl rfl 16 (by decide) (hts (.fieldLink RX7 163 "SnapTableModel" "met" "I") (by decide +kernel)) (fun _ h9 => h9) rfl (by decide +kernel) rfl rfl (Nat.le_of_ble_eq_true rfl) dX7_comes_73 (fun H locs hP hD hS => ?_)
          have hP : va_P (dC, dI) vwCl (WM bd cb (z_4.1, z_4.2.1, z_4.2.2.1, z_4.2.2.2.1, z_4.2.2.2.2.1, z_4.2.2.2.2.2.1, z_4.2.2.2.2.2.2.1, z_4.2.2.2.2.2.2.2.1, z_4.2.2.2.2.2.2.2.2.1, z_4.2.2.2.2.2.2.2.2.2.1, z_4.2.2.2.2.2.2.2.2.2.2.1, z_4.2.2.2.2.2.2.2.2.2.2.2.1, z_4.2.2.2.2.2.2.2.2.2.2.2.2.1, z_4.2.2.2.2.2.2.2.2.2.2.2.2.2.1, z_4.2.2.2.2.2.2.2.2.2.2.2.2.2.2.1, z_4.2.2.2.2.2.2.2.2.2.2.2.2.2.2.2.1, (z_4.2.2.2.2.2.2.2.2.2.2.2.2.2.2.2.2 + ((1 : Int32) + (1 : Int32))))) H := hP
          have hD : va_D (va_A (WM bd cb u) s.heap.size) (WM bd cb (z_4.1, z_4.2.1, z_4.2.2.1, z_4.2.2.2.1, z_4.2.2.2.2.1, z_4.2.2.2.2.2.1, z_4.2.2.2.2.2.2.1, z_4.2.2.2.2.2.2.2.1, z_4.2.2.2.2.2.2.2.2.1, z_4.2.2.2.2.2.2.2.2.2.1, z_4.2.2.2.2.2.2.2.2.2.2.1, z_4.2.2.2.2.2.2.2.2.2.2.2.1, z_4.2.2.2.2.2.2.2.2.2.2.2.2.1, z_4.2.2.2.2.2.2.2.2.2.2.2.2.2.1, z_4.2.2.2.2.2.2.2.2.2.2.2.2.2.2.1, z_4.2.2.2.2.2.2.2.2.2.2.2.2.2.2.2.1, (z_4.2.2.2.2.2.2.2.2.2.2.2.2.2.2.2.2 + ((1 : Int32) + (1 : Int32))))) := hD
          refine lv_aload_n hx hb dX7_comes_76 rfl (lv_at hl 2 rfl) ?_
          refine va_get (D := (dC, dI)) (ci := 3) (v := .ref (bd 1)) (C := RX7) (T := TX7) (N := 17) hx hb hts hin7 hown hK hP 0 rfl rfl 0 (by decide) (hts (.fieldLink RX7 7 "SnapTableModel" "xs" "[J") (by decide +kernel)) (fun _ h9 => h9) rfl dX7_comes_77 ?_
          refine lv_iload_n hx hb dX7_comes_80 rfl (lv_at hl 3 rfl) ?_
          refine lv_lload hx hb dX7_comes_81 (lv_at hl 1 rfl) ?_
          refine va_last hx hb hK hP hD hS 1 0 rfl rfl (by first | with_reducible assumption | with_reducible exact pt_in (by with_reducible assumption) | with_reducible exact ptm_in (by with_reducible assumption) | exact LU.vin (B := 8) hm (by decide) (by with_reducible assumption) (by decide) | exact LU.vin (B := 4) hm (by decide) (by with_reducible assumption) (by decide) | exact LU.vin (B := 16) hm (by decide) (by with_reducible assumption) (by decide) | exact vp_in_nI (n := 0) (by decide) (by decide) | with_reducible exact gdm_in (by with_reducible assumption) (by with_reducible assumption) | with_reducible exact gd_in (by with_reducible assumption) (by with_reducible assumption)) dX7_comes_83 (fun H locs hP hD hS => ?_)
          have hP : va_P (dC, dI) vwCl (WM bd cb ((vp_updL z_4.1 a0.toNatClampNeg (mX7_walled u a1)), z_4.2.1, z_4.2.2.1, z_4.2.2.2.1, z_4.2.2.2.2.1, z_4.2.2.2.2.2.1, z_4.2.2.2.2.2.2.1, z_4.2.2.2.2.2.2.2.1, z_4.2.2.2.2.2.2.2.2.1, z_4.2.2.2.2.2.2.2.2.2.1, z_4.2.2.2.2.2.2.2.2.2.2.1, z_4.2.2.2.2.2.2.2.2.2.2.2.1, z_4.2.2.2.2.2.2.2.2.2.2.2.2.1, z_4.2.2.2.2.2.2.2.2.2.2.2.2.2.1, z_4.2.2.2.2.2.2.2.2.2.2.2.2.2.2.1, z_4.2.2.2.2.2.2.2.2.2.2.2.2.2.2.2.1, (z_4.2.2.2.2.2.2.2.2.2.2.2.2.2.2.2.2 + ((1 : Int32) + (1 : Int32))))) H := hP
          have hD : va_D (va_A (WM bd cb u) s.heap.size) (WM bd cb ((vp_updL z_4.1 a0.toNatClampNeg (mX7_walled u a1)), z_4.2.1, z_4.2.2.1, z_4.2.2.2.1, z_4.2.2.2.2.1, z_4.2.2.2.2.2.1, z_4.2.2.2.2.2.2.1, z_4.2.2.2.2.2.2.2.1, z_4.2.2.2.2.2.2.2.2.1, z_4.2.2.2.2.2.2.2.2.2.1, z_4.2.2.2.2.2.2.2.2.2.2.1, z_4.2.2.2.2.2.2.2.2.2.2.2.1, z_4.2.2.2.2.2.2.2.2.2.2.2.2.1, z_4.2.2.2.2.2.2.2.2.2.2.2.2.2.1, z_4.2.2.2.2.2.2.2.2.2.2.2.2.2.2.1, z_4.2.2.2.2.2.2.2.2.2.2.2.2.2.2.2.1, (z_4.2.2.2.2.2.2.2.2.2.2.2.2.2.2.2.2 + ((1 : Int32) + (1 : Int32))))) := hD
          refine lv_aload_n hx hb dX7_comes_84 rfl (lv_at hl 2 rfl) ?_
          refine va_get (D := (dC, dI)) (ci := 3) (v := .ref (bd 2)) (C := RX7) (T := TX7) (N := 17) hx hb hts hin7 hown hK hP 0 rfl rfl 1 (by decide) (hts (.fieldLink RX7 13 "SnapTableModel" "ys" "[I") (by decide +kernel)) (fun _ h9 => h9) rfl dX7_comes_85 ?_
          refine lv_iload_n hx hb dX7_comes_88 rfl (lv_at hl 3 rfl) ?_
          refine lv_iload hx hb dX7_comes_89 (lv_at hl 0 rfl) ?_
          refine va_iast hx hb hK hP hD hS 2 1 rfl rfl (by first | with_reducible assumption | with_reducible exact pt_in (by with_reducible assumption) | with_reducible exact ptm_in (by with_reducible assumption) | exact LU.vin (B := 8) hm (by decide) (by with_reducible assumption) (by decide) | exact LU.vin (B := 4) hm (by decide) (by with_reducible assumption) (by decide) | exact LU.vin (B := 16) hm (by decide) (by with_reducible assumption) (by decide) | exact vp_in_nI (n := 0) (by decide) (by decide) | with_reducible exact gdm_in (by with_reducible assumption) (by with_reducible assumption) | with_reducible exact gd_in (by with_reducible assumption) (by with_reducible assumption)) dX7_comes_91 (fun H locs hP hD hS => ?_)
          have hP : va_P (dC, dI) vwCl (WM bd cb ((vp_updL z_4.1 a0.toNatClampNeg (mX7_walled u a1)), (upd z_4.2.1 a0.toNatClampNeg (mX7_railed u a2)), z_4.2.2.1, z_4.2.2.2.1, z_4.2.2.2.2.1, z_4.2.2.2.2.2.1, z_4.2.2.2.2.2.2.1, z_4.2.2.2.2.2.2.2.1, z_4.2.2.2.2.2.2.2.2.1, z_4.2.2.2.2.2.2.2.2.2.1, z_4.2.2.2.2.2.2.2.2.2.2.1, z_4.2.2.2.2.2.2.2.2.2.2.2.1, z_4.2.2.2.2.2.2.2.2.2.2.2.2.1, z_4.2.2.2.2.2.2.2.2.2.2.2.2.2.1, z_4.2.2.2.2.2.2.2.2.2.2.2.2.2.2.1, z_4.2.2.2.2.2.2.2.2.2.2.2.2.2.2.2.1, (z_4.2.2.2.2.2.2.2.2.2.2.2.2.2.2.2.2 + ((1 : Int32) + (1 : Int32))))) H := hP
          have hD : va_D (va_A (WM bd cb u) s.heap.size) (WM bd cb ((vp_updL z_4.1 a0.toNatClampNeg (mX7_walled u a1)), (upd z_4.2.1 a0.toNatClampNeg (mX7_railed u a2)), z_4.2.2.1, z_4.2.2.2.1, z_4.2.2.2.2.1, z_4.2.2.2.2.2.1, z_4.2.2.2.2.2.2.1, z_4.2.2.2.2.2.2.2.1, z_4.2.2.2.2.2.2.2.2.1, z_4.2.2.2.2.2.2.2.2.2.1, z_4.2.2.2.2.2.2.2.2.2.2.1, z_4.2.2.2.2.2.2.2.2.2.2.2.1, z_4.2.2.2.2.2.2.2.2.2.2.2.2.1, z_4.2.2.2.2.2.2.2.2.2.2.2.2.2.1, z_4.2.2.2.2.2.2.2.2.2.2.2.2.2.2.1, z_4.2.2.2.2.2.2.2.2.2.2.2.2.2.2.2.1, (z_4.2.2.2.2.2.2.2.2.2.2.2.2.2.2.2.2 + ((1 : Int32) + (1 : Int32))))) := hD
          refine lv_aload_n hx hb dX7_comes_92 rfl (lv_at hl 2 rfl) ?_
          refine hc_M (C := RX7) (ci := 3) (T := TX7) (N := 17) (As := []) (rest := []) ⟨hx, hb, hml, hown, hts⟩ (ct_X7_does l dC dI bd cb _ ((vp_updL z_4.1 a0.toNatClampNeg (mX7_walled u a1)), (upd z_4.2.1 a0.toNatClampNeg (mX7_railed u a2)), z_4.2.2.1, z_4.2.2.2.1, z_4.2.2.2.2.1, z_4.2.2.2.2.2.1, z_4.2.2.2.2.2.2.1, z_4.2.2.2.2.2.2.2.1, z_4.2.2.2.2.2.2.2.2.1, z_4.2.2.2.2.2.2.2.2.2.1, z_4.2.2.2.2.2.2.2.2.2.2.1, z_4.2.2.2.2.2.2.2.2.2.2.2.1, z_4.2.2.2.2.2.2.2.2.2.2.2.2.1, z_4.2.2.2.2.2.2.2.2.2.2.2.2.2.1, z_4.2.2.2.2.2.2.2.2.2.2.2.2.2.2.1, z_4.2.2.2.2.2.2.2.2.2.2.2.2.2.2.2.1, (z_4.2.2.2.2.2.2.2.2.2.2.2.2.2.2.2.2 + ((1 : Int32) + (1 : Int32))))) (cwV 0 hts gX7_comes_X7_does rfl rfl rfl (by decide +kernel) ⟨Nat.le_of_ble_eq_true rfl, Nat.le_of_ble_eq_true rfl⟩) hP hD (hK.sub [0, 1, 2, 3, 4, 5, 6] rfl) hNW hS hA [0, 1, 2, 3, 4, 5, 6, 7] [] rfl (wr := []) rfl (by decide) (by decide) (by decide) rfl rfl rfl hl.1 rfl (Nat.le_of_ble_eq_true rfl) dX7_comes_93 ⟨Nat.le_of_ble_eq_true rfl, Nat.le_of_ble_eq_true rfl⟩ (fun H locs hP hD hS => ?_)
          generalize hz_11 : mX7_does ((vp_updL z_4.1 a0.toNatClampNeg (mX7_walled u a1)), (upd z_4.2.1 a0.toNatClampNeg (mX7_railed u a2)), z_4.2.2.1, z_4.2.2.2.1, z_4.2.2.2.2.1, z_4.2.2.2.2.2.1, z_4.2.2.2.2.2.2.1, z_4.2.2.2.2.2.2.2.1, z_4.2.2.2.2.2.2.2.2.1, z_4.2.2.2.2.2.2.2.2.2.1, z_4.2.2.2.2.2.2.2.2.2.2.1, z_4.2.2.2.2.2.2.2.2.2.2.2.1, z_4.2.2.2.2.2.2.2.2.2.2.2.2.1, z_4.2.2.2.2.2.2.2.2.2.2.2.2.2.1, z_4.2.2.2.2.2.2.2.2.2.2.2.2.2.2.1, z_4.2.2.2.2.2.2.2.2.2.2.2.2.2.2.2.1, (z_4.2.2.2.2.2.2.2.2.2.2.2.2.2.2.2.2 + ((1 : Int32) + (1 : Int32)))) = z_11 at hP hD ⊢
          have hP : va_P (dC, dI) vwCl (WM bd cb z_11.2) H := hP.sub [0, 1, 2, 3, 4, 5, 6, 7] rfl
          have hD : va_D (va_A (WM bd cb u) s.heap.size) (WM bd cb z_11.2) := hD.sub [0, 1, 2, 3, 4, 5, 6, 7] (by decide) rfl
          refine W.eq (g2 := F0 m 96 ls (.int z_11.1 :: [])) rfl ?_
          have he : mX7_comes u a0 a1 a2 = (z_11.1, z_11.2) := by rw [mX7_comes, if_pos c_1, if_pos c_3, hz_4, if_neg c_5, if_neg c_9, hz_11]
          exact rM_i hx hb hr hlocks hP hD hS (by rw [he]) (by rw [he]) dX7_comes_96
    · refine lv_aload_n hx hb dX7_comes_31 rfl (lv_at hl 2 rfl) ?_
      refine lv_iconst (v := (5 : Int32)) hx hb dX7_comes_32 (by decide) ?_
      refine hc_M (C := RX7) (ci := 3) (T := TX7) (N := 17) (As := [.int (5 : Int32)]) (rest := []) ⟨hx, hb, hml, hown, hts⟩ (ct_X7_refuses l dC dI bd cb _ u (5 : Int32)) (cwV 1 hts gX7_comes_X7_refuses rfl rfl rfl (by decide +kernel) ⟨Nat.le_of_ble_eq_true rfl, Nat.le_of_ble_eq_true rfl⟩) hP hD (hK.sub [0, 1, 2, 3, 4, 5, 6] rfl) hNW hS hA [0, 1, 2, 3, 4, 5, 6, 7] [] rfl (wr := []) rfl (by decide) (by decide) (by decide) rfl rfl rfl hl.1 rfl (Nat.le_of_ble_eq_true rfl) dX7_comes_33 ⟨Nat.le_of_ble_eq_true rfl, Nat.le_of_ble_eq_true rfl⟩ (fun H locs hP hD hS => ?_)
      generalize hz_12 : mX7_refuses u (5 : Int32) = z_12 at hP hD ⊢
      have hP : va_P (dC, dI) vwCl (WM bd cb z_12.2) H := hP.sub [0, 1, 2, 3, 4, 5, 6, 7] rfl
      have hD : va_D (va_A (WM bd cb u) s.heap.size) (WM bd cb z_12.2) := hD.sub [0, 1, 2, 3, 4, 5, 6, 7] (by decide) rfl
      refine W.eq (g2 := F0 m 36 ls (.int z_12.1 :: [])) rfl ?_
      have he : mX7_comes u a0 a1 a2 = (z_12.1, z_12.2) := by rw [mX7_comes, if_pos c_1, if_neg c_3, hz_12]
      exact rM_i hx hb hr hlocks hP hD hS (by rw [he]) (by rw [he]) dX7_comes_36
