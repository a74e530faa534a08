section
/-! THE LAW: its calls, one by one -/
set_option maxHeartbeats 4000000 in
set_option maxRecDepth 100000 in
theorem lc_0 {p : Program} {e : Env} {s : State} {m : MethodId} {below : List Frame} {meth : Method} {c : Code} (l : Launch) {b L : Nat} {xs : Nat → Int32} (hL : L ≤ 2560) (C0 : lw_At p s m meth c b L xs) {dC : Nat → ClassId} {dI : Nat → Nat → Nat} {ad : Nat → Nat} {ca : Nat → ClassId} {bd : Nat → Nat} {cb : Nat → ClassId} {i : Nat} (hi : i + 5 ≤ L) {u : TS} {v : MS} (hR : RR u v) {H : Heap} {locs : List Loc} (hNW : NW s) (hK : va_K (dC, dI) vwCl ([((ca 4), .long), ((ca 5), .long), ((ca 6), .long), ((ca 7), .int), ((ca 8), .long), ((ca 9), .long)] ++ [((cb 1), .long), ((cb 2), .int), ((cb 3), .long), ((cb 4), .boolean), ((cb 5), .int), ((cb 6), .long), ((cb 7), .int)]) s) (hP : va_P (dC, dI) vwCl (WT ad ca u ++ WM bd cb v) H) (hD : va_D (fun q : Nat => s.heap.size ≤ q) (WT ad ca u ++ WM bd cb v)) (hS : va_S (fun q : Nat => s.heap.size ≤ q) s.heap H locs) {ls : Array Slot} (hl : lv_has ls 4 [(0, .ref b), (1, .ref (ad 0)), (2, .ref (bd 0)), (3, .int (nI i))]) (kk : ∀ (u : TS) (v : MS) (H : Heap) (locs : List Loc), RR u v → va_P (dC, dI) vwCl (WT ad ca u ++ WM bd cb v) H → va_D (fun q : Nat => s.heap.size ≤ q) (WT ad ca u ++ WM bd cb v) → va_S (fun q : Nat => s.heap.size ≤ q) s.heap H locs → W p l e room_1 s m #[Value.ref b] below meth c H locs 18 182 (lw_Z below #[Value.ref b] s) (F0 m 1184 ls [])) : W p l e room_1 s m #[Value.ref b] below meth c H locs 18 182 (lw_Z below #[Value.ref b] s) (F0 m 156 ls []) := by
  obtain ⟨hx, hb, hr, hml, hown0, hts0, hX, hbl, hlocks, hgv⟩ := C0
  have hts : ∀ w ∈ wsL_law, w.before #[Value.ref b] s = true := fun w h => hts0 w (wsL_law_in w h)
  have hown : s.vm.findClass RL = some m.cls := hown0
  have hA : ∀ q : Nat, s.heap.size ≤ q → (fun q : Nat => s.heap.size ≤ q) q := fun _ h => h
  have hbA : ¬ (fun q : Nat => s.heap.size ≤ q) b := Nat.not_le.mpr hbl
  refine lv_aload_n hx hb dL_law_156 rfl (lv_at hl 1 rfl) ?_
  refine lv_aload_n hx hb dL_law_157 rfl (lv_at hl 0 rfl) ?_
  refine lv_iload_n hx hb dL_law_158 rfl (lv_at hl 3 rfl) ?_
  refine lv_iconst (v := (1 : Int32)) hx hb dL_law_159 (by decide) ?_
  refine lv_iadd hx hb dL_law_160 ?_
  refine va_sld hx hb hX hbl hbA hS (sc_in hi hL 1 (by decide) (by decide)) dL_law_161 ?_
  refine lv_aload_n hx hb dL_law_162 rfl (lv_at hl 0 rfl) ?_
  refine lv_iload_n hx hb dL_law_163 rfl (lv_at hl 3 rfl) ?_
  refine lv_iconst (v := (2 : Int32)) hx hb dL_law_164 (by decide) ?_
  refine lv_iadd hx hb dL_law_165 ?_
  refine va_sld hx hb hX hbl hbA hS (sc_in hi hL 2 (by decide) (by decide)) dL_law_166 ?_
  refine lv_i2l hx hb dL_law_167 rfl ?_
  refine lv_bipush (v := (32 : Int32)) hx hb dL_law_168 (by decide) ?_
  refine lv_lshl hx hb dL_law_170 rfl ?_
  refine lv_aload_n hx hb dL_law_171 rfl (lv_at hl 0 rfl) ?_
  refine lv_iload_n hx hb dL_law_172 rfl (lv_at hl 3 rfl) ?_
  refine lv_iconst (v := (3 : Int32)) hx hb dL_law_173 (by decide) ?_
  refine lv_iadd hx hb dL_law_174 ?_
  refine va_sld hx hb hX hbl hbA hS (sc_in hi hL 3 (by decide) (by decide)) dL_law_175 ?_
  refine lv_i2l hx hb dL_law_176 rfl ?_
  refine lv_ldc2 (v := (4294967295 : Int64)) hx hb hown (hts (.constantLong RL 13 (4294967295)) (by decide +kernel)) dL_law_177 ?_
  refine lv_land hx hb dL_law_180 ?_
  refine lv_lor hx hb dL_law_181 ?_
  refine lv_aload_n hx hb dL_law_182 rfl (lv_at hl 0 rfl) ?_
  refine lv_iload_n hx hb dL_law_183 rfl (lv_at hl 3 rfl) ?_
  refine lv_iconst (v := (4 : Int32)) hx hb dL_law_184 (by decide) ?_
  refine lv_iadd hx hb dL_law_185 ?_
  refine va_sld hx hb hX hbl hbA hS (sc_in hi hL 4 (by decide) (by decide)) dL_law_186 ?_
  refine hc_M (C := RX6) (ci := 2) (T := TX6) (N := 7) (As := [.int (xs (nI i + (1 : Int32)).toNatClampNeg), .long (((xs (nI i + (2 : Int32)).toNatClampNeg).toInt64 <<< ((32 : Int32).toInt64 &&& 63)) ||| ((xs (nI i + (3 : Int32)).toNatClampNeg).toInt64 &&& (4294967295 : Int64))), .int (xs (nI i + (4 : Int32)).toNatClampNeg)]) (rest := []) ⟨hx, hb, hml, hown, hts⟩ (ct_X6_place l dC dI ad ca _ u (xs (nI i + (1 : Int32)).toNatClampNeg) (((xs (nI i + (2 : Int32)).toNatClampNeg).toInt64 <<< ((32 : Int32).toInt64 &&& 63)) ||| ((xs (nI i + (3 : Int32)).toNatClampNeg).toInt64 &&& (4294967295 : Int64))) (xs (nI i + (4 : Int32)).toNatClampNeg) hR.hn) (cwV 3 hts gL_law_X6_place rfl rfl rfl (by decide +kernel) ⟨Nat.le_of_ble_eq_true rfl, Nat.le_of_ble_eq_true rfl⟩) hP hD (hK.sub [0, 1, 2, 3, 4, 5] rfl) hNW hS hA [0, 1, 2, 3, 4, 5, 6, 7, 8, 9] [10, 11, 12, 13, 14, 15, 16, 17] rfl (wr := (WM bd cb v)) rfl (by decide) (by decide) (by decide) rfl rfl rfl hl.1 rfl (Nat.le_of_ble_eq_true rfl) dL_law_187 ⟨Nat.le_of_ble_eq_true rfl, Nat.le_of_ble_eq_true rfl⟩ (fun H locs hP hD hS => ?_)
  have hP : va_P (dC, dI) vwCl (WT ad ca ((mX6_place u (xs (nI i + (1 : Int32)).toNatClampNeg) (((xs (nI i + (2 : Int32)).toNatClampNeg).toInt64 <<< ((32 : Int32).toInt64 &&& 63)) ||| ((xs (nI i + (3 : Int32)).toNatClampNeg).toInt64 &&& (4294967295 : Int64))) (xs (nI i + (4 : Int32)).toNatClampNeg)).2) ++ WM bd cb v) H := hP.sub [8, 9, 10, 11, 12, 13, 14, 15, 16, 17, 0, 1, 2, 3, 4, 5, 6, 7] rfl
  have hD : va_D (fun q : Nat => s.heap.size ≤ q) (WT ad ca ((mX6_place u (xs (nI i + (1 : Int32)).toNatClampNeg) (((xs (nI i + (2 : Int32)).toNatClampNeg).toInt64 <<< ((32 : Int32).toInt64 &&& 63)) ||| ((xs (nI i + (3 : Int32)).toNatClampNeg).toInt64 &&& (4294967295 : Int64))) (xs (nI i + (4 : Int32)).toNatClampNeg)).2) ++ WM bd cb v) := hD.sub [8, 9, 10, 11, 12, 13, 14, 15, 16, 17, 0, 1, 2, 3, 4, 5, 6, 7] (by decide) rfl
  refine W.eq (g2 := F0 m 190 ls (.int (mX6_place u (xs (nI i + (1 : Int32)).toNatClampNeg) (((xs (nI i + (2 : Int32)).toNatClampNeg).toInt64 <<< ((32 : Int32).toInt64 &&& 63)) ||| ((xs (nI i + (3 : Int32)).toNatClampNeg).toInt64 &&& (4294967295 : Int64))) (xs (nI i + (4 : Int32)).toNatClampNeg)).1 :: [])) rfl ?_
  refine lv_aload_n hx hb dL_law_190 rfl (lv_at hl 2 rfl) ?_
  refine lv_aload_n hx hb dL_law_191 rfl (lv_at hl 0 rfl) ?_
  refine lv_iload_n hx hb dL_law_192 rfl (lv_at hl 3 rfl) ?_
  refine lv_iconst (v := (1 : Int32)) hx hb dL_law_193 (by decide) ?_
  refine lv_iadd hx hb dL_law_194 ?_
  refine va_sld hx hb hX hbl hbA hS (sc_in hi hL 1 (by decide) (by decide)) dL_law_195 ?_
  refine lv_aload_n hx hb dL_law_196 rfl (lv_at hl 0 rfl) ?_
  refine lv_iload_n hx hb dL_law_197 rfl (lv_at hl 3 rfl) ?_
  refine lv_iconst (v := (2 : Int32)) hx hb dL_law_198 (by decide) ?_
  refine lv_iadd hx hb dL_law_199 ?_
  refine va_sld hx hb hX hbl hbA hS (sc_in hi hL 2 (by decide) (by decide)) dL_law_200 ?_
  refine lv_i2l hx hb dL_law_201 rfl ?_
  refine lv_bipush (v := (32 : Int32)) hx hb dL_law_202 (by decide) ?_
  refine lv_lshl hx hb dL_law_204 rfl ?_
  refine lv_aload_n hx hb dL_law_205 rfl (lv_at hl 0 rfl) ?_
  refine lv_iload_n hx hb dL_law_206 rfl (lv_at hl 3 rfl) ?_
  refine lv_iconst (v := (3 : Int32)) hx hb dL_law_207 (by decide) ?_
  refine lv_iadd hx hb dL_law_208 ?_
  refine va_sld hx hb hX hbl hbA hS (sc_in hi hL 3 (by decide) (by decide)) dL_law_209 ?_
  refine lv_i2l hx hb dL_law_210 rfl ?_
  refine lv_ldc2 (v := (4294967295 : Int64)) hx hb hown (hts (.constantLong RL 13 (4294967295)) (by decide +kernel)) dL_law_211 ?_
  refine lv_land hx hb dL_law_214 ?_
  refine lv_lor hx hb dL_law_215 ?_
  refine lv_aload_n hx hb dL_law_216 rfl (lv_at hl 0 rfl) ?_
  refine lv_iload_n hx hb dL_law_217 rfl (lv_at hl 3 rfl) ?_
  refine lv_iconst (v := (4 : Int32)) hx hb dL_law_218 (by decide) ?_
  refine lv_iadd hx hb dL_law_219 ?_
  refine va_sld hx hb hX hbl hbA hS (sc_in hi hL 4 (by decide) (by decide)) dL_law_220 ?_
  refine hc_M (C := RX7) (ci := 3) (T := TX7) (N := 17) (As := [.int (xs (nI i + (1 : Int32)).toNatClampNeg), .long (((xs (nI i + (2 : Int32)).toNatClampNeg).toInt64 <<< ((32 : Int32).toInt64 &&& 63)) ||| ((xs (nI i + (3 : Int32)).toNatClampNeg).toInt64 &&& (4294967295 : Int64))), .int (xs (nI i + (4 : Int32)).toNatClampNeg)]) (rest := [.int ((mX6_place u (xs (nI i + (1 : Int32)).toNatClampNeg) (((xs (nI i + (2 : Int32)).toNatClampNeg).toInt64 <<< ((32 : Int32).toInt64 &&& 63)) ||| ((xs (nI i + (3 : Int32)).toNatClampNeg).toInt64 &&& (4294967295 : Int64))) (xs (nI i + (4 : Int32)).toNatClampNeg)).1)]) ⟨hx, hb, hml, hown, hts⟩ (ct_X7_place l dC dI bd cb _ v (xs (nI i + (1 : Int32)).toNatClampNeg) (((xs (nI i + (2 : Int32)).toNatClampNeg).toInt64 <<< ((32 : Int32).toInt64 &&& 63)) ||| ((xs (nI i + (3 : Int32)).toNatClampNeg).toInt64 &&& (4294967295 : Int64))) (xs (nI i + (4 : Int32)).toNatClampNeg) hR.ht) (cwV 3 hts gL_law_X7_place rfl rfl rfl (by decide +kernel) ⟨Nat.le_of_ble_eq_true rfl, Nat.le_of_ble_eq_true rfl⟩) hP hD (hK.sub [6, 7, 8, 9, 10, 11, 12] rfl) hNW hS hA [10, 11, 12, 13, 14, 15, 16, 17] [0, 1, 2, 3, 4, 5, 6, 7, 8, 9] rfl (wr := (WT ad ca ((mX6_place u (xs (nI i + (1 : Int32)).toNatClampNeg) (((xs (nI i + (2 : Int32)).toNatClampNeg).toInt64 <<< ((32 : Int32).toInt64 &&& 63)) ||| ((xs (nI i + (3 : Int32)).toNatClampNeg).toInt64 &&& (4294967295 : Int64))) (xs (nI i + (4 : Int32)).toNatClampNeg)).2))) rfl (by decide) (by decide) (by decide) rfl rfl rfl hl.1 rfl (Nat.le_of_ble_eq_true rfl) dL_law_221 ⟨Nat.le_of_ble_eq_true rfl, Nat.le_of_ble_eq_true rfl⟩ (fun H locs hP hD hS => ?_)
  have hP : va_P (dC, dI) vwCl (WT ad ca ((mX6_place u (xs (nI i + (1 : Int32)).toNatClampNeg) (((xs (nI i + (2 : Int32)).toNatClampNeg).toInt64 <<< ((32 : Int32).toInt64 &&& 63)) ||| ((xs (nI i + (3 : Int32)).toNatClampNeg).toInt64 &&& (4294967295 : Int64))) (xs (nI i + (4 : Int32)).toNatClampNeg)).2) ++ WM bd cb ((mX7_place v (xs (nI i + (1 : Int32)).toNatClampNeg) (((xs (nI i + (2 : Int32)).toNatClampNeg).toInt64 <<< ((32 : Int32).toInt64 &&& 63)) ||| ((xs (nI i + (3 : Int32)).toNatClampNeg).toInt64 &&& (4294967295 : Int64))) (xs (nI i + (4 : Int32)).toNatClampNeg)).2)) H := hP.sub [0, 1, 2, 3, 4, 5, 6, 7, 8, 9, 10, 11, 12, 13, 14, 15, 16, 17] rfl
  have hD : va_D (fun q : Nat => s.heap.size ≤ q) (WT ad ca ((mX6_place u (xs (nI i + (1 : Int32)).toNatClampNeg) (((xs (nI i + (2 : Int32)).toNatClampNeg).toInt64 <<< ((32 : Int32).toInt64 &&& 63)) ||| ((xs (nI i + (3 : Int32)).toNatClampNeg).toInt64 &&& (4294967295 : Int64))) (xs (nI i + (4 : Int32)).toNatClampNeg)).2) ++ WM bd cb ((mX7_place v (xs (nI i + (1 : Int32)).toNatClampNeg) (((xs (nI i + (2 : Int32)).toNatClampNeg).toInt64 <<< ((32 : Int32).toInt64 &&& 63)) ||| ((xs (nI i + (3 : Int32)).toNatClampNeg).toInt64 &&& (4294967295 : Int64))) (xs (nI i + (4 : Int32)).toNatClampNeg)).2)) := hD.sub [0, 1, 2, 3, 4, 5, 6, 7, 8, 9, 10, 11, 12, 13, 14, 15, 16, 17] (by decide) rfl
  refine W.eq (g2 := F0 m 224 ls (.int (mX7_place v (xs (nI i + (1 : Int32)).toNatClampNeg) (((xs (nI i + (2 : Int32)).toNatClampNeg).toInt64 <<< ((32 : Int32).toInt64 &&& 63)) ||| ((xs (nI i + (3 : Int32)).toNatClampNeg).toInt64 &&& (4294967295 : Int64))) (xs (nI i + (4 : Int32)).toNatClampNeg)).1 :: [.int ((mX6_place u (xs (nI i + (1 : Int32)).toNatClampNeg) (((xs (nI i + (2 : Int32)).toNatClampNeg).toInt64 <<< ((32 : Int32).toInt64 &&& 63)) ||| ((xs (nI i + (3 : Int32)).toNatClampNeg).toInt64 &&& (4294967295 : Int64))) (xs (nI i + (4 : Int32)).toNatClampNeg)).1)])) rfl ?_
  refine lv_icmp_eq (tgt := 1184) hx hb dL_law_224 (by decide) (fun c1 => ?_) (fun c1 => ?_)
  · exact kk _ _ _ _ (sim_place hR (xs (nI i + (1 : Int32)).toNatClampNeg) (((xs (nI i + (2 : Int32)).toNatClampNeg).toInt64 <<< ((32 : Int32).toInt64 &&& 63)) ||| ((xs (nI i + (3 : Int32)).toNatClampNeg).toInt64 &&& (4294967295 : Int64))) (xs (nI i + (4 : Int32)).toNatClampNeg)).2 hP hD hS
  · exact absurd (sim_place hR (xs (nI i + (1 : Int32)).toNatClampNeg) (((xs (nI i + (2 : Int32)).toNatClampNeg).toInt64 <<< ((32 : Int32).toInt64 &&& 63)) ||| ((xs (nI i + (3 : Int32)).toNatClampNeg).toInt64 &&& (4294967295 : Int64))) (xs (nI i + (4 : Int32)).toNatClampNeg)).1 c1

set_option maxHeartbeats 4000000 in
set_option maxRecDepth 100000 in
theorem lc_1 {p : Program} {e : Env} {s : State} {m : MethodId} {below : List Frame} {meth : Method} {c : Code} (l : Launch) {b L : Nat} {xs : Nat → Int32} (hL : L ≤ 2560) (C0 : lw_At p s m meth c b L xs) {dC : Nat → ClassId} {dI : Nat → Nat → Nat} {ad : Nat → Nat} {ca : Nat → ClassId} {bd : Nat → Nat} {cb : Nat → ClassId} {i : Nat} (hi : i + 5 ≤ L) {u : TS} {v : MS} (hR : RR u v) {H : Heap} {locs : List Loc} (hNW : NW s) (hK : va_K (dC, dI) vwCl ([((ca 4), .long), ((ca 5), .long), ((ca 6), .long), ((ca 7), .int), ((ca 8), .long), ((ca 9), .long)] ++ [((cb 1), .long), ((cb 2), .int), ((cb 3), .long), ((cb 4), .boolean), ((cb 5), .int), ((cb 6), .long), ((cb 7), .int)]) s) (hP : va_P (dC, dI) vwCl (WT ad ca u ++ WM bd cb v) H) (hD : va_D (fun q : Nat => s.heap.size ≤ q) (WT ad ca u ++ WM bd cb v)) (hS : va_S (fun q : Nat => s.heap.size ≤ q) s.heap H locs) {ls : Array Slot} (hl : lv_has ls 4 [(0, .ref b), (1, .ref (ad 0)), (2, .ref (bd 0)), (3, .int (nI i))]) (kk : ∀ (u : TS) (v : MS) (H : Heap) (locs : List Loc), RR u v → va_P (dC, dI) vwCl (WT ad ca u ++ WM bd cb v) H → va_D (fun q : Nat => s.heap.size ≤ q) (WT ad ca u ++ WM bd cb v) → va_S (fun q : Nat => s.heap.size ≤ q) s.heap H locs → W p l e room_1 s m #[Value.ref b] below meth c H locs 18 182 (lw_Z below #[Value.ref b] s) (F0 m 1184 ls [])) : W p l e room_1 s m #[Value.ref b] below meth c H locs 18 182 (lw_Z below #[Value.ref b] s) (F0 m 229 ls []) := by
  obtain ⟨hx, hb, hr, hml, hown0, hts0, hX, hbl, hlocks, hgv⟩ := C0
  have hts : ∀ w ∈ wsL_law, w.before #[Value.ref b] s = true := fun w h => hts0 w (wsL_law_in w h)
  have hown : s.vm.findClass RL = some m.cls := hown0
  have hA : ∀ q : Nat, s.heap.size ≤ q → (fun q : Nat => s.heap.size ≤ q) q := fun _ h => h
  have hbA : ¬ (fun q : Nat => s.heap.size ≤ q) b := Nat.not_le.mpr hbl
  refine lv_aload_n hx hb dL_law_229 rfl (lv_at hl 1 rfl) ?_
  refine lv_aload_n hx hb dL_law_230 rfl (lv_at hl 0 rfl) ?_
  refine lv_iload_n hx hb dL_law_231 rfl (lv_at hl 3 rfl) ?_
  refine lv_iconst (v := (1 : Int32)) hx hb dL_law_232 (by decide) ?_
  refine lv_iadd hx hb dL_law_233 ?_
  refine va_sld hx hb hX hbl hbA hS (sc_in hi hL 1 (by decide) (by decide)) dL_law_234 ?_
  refine lv_i2l hx hb dL_law_235 rfl ?_
  refine lv_bipush (v := (32 : Int32)) hx hb dL_law_236 (by decide) ?_
  refine lv_lshl hx hb dL_law_238 rfl ?_
  refine lv_aload_n hx hb dL_law_239 rfl (lv_at hl 0 rfl) ?_
  refine lv_iload_n hx hb dL_law_240 rfl (lv_at hl 3 rfl) ?_
  refine lv_iconst (v := (2 : Int32)) hx hb dL_law_241 (by decide) ?_
  refine lv_iadd hx hb dL_law_242 ?_
  refine va_sld hx hb hX hbl hbA hS (sc_in hi hL 2 (by decide) (by decide)) dL_law_243 ?_
  refine lv_i2l hx hb dL_law_244 rfl ?_
  refine lv_ldc2 (v := (4294967295 : Int64)) hx hb hown (hts (.constantLong RL 13 (4294967295)) (by decide +kernel)) dL_law_245 ?_
  refine lv_land hx hb dL_law_248 ?_
  refine lv_lor hx hb dL_law_249 ?_
  refine lv_aload_n hx hb dL_law_250 rfl (lv_at hl 0 rfl) ?_
  refine lv_iload_n hx hb dL_law_251 rfl (lv_at hl 3 rfl) ?_
  refine lv_iconst (v := (3 : Int32)) hx hb dL_law_252 (by decide) ?_
  refine lv_iadd hx hb dL_law_253 ?_
  refine va_sld hx hb hX hbl hbA hS (sc_in hi hL 3 (by decide) (by decide)) dL_law_254 ?_
  refine lv_i2l hx hb dL_law_255 rfl ?_
  refine lv_bipush (v := (32 : Int32)) hx hb dL_law_256 (by decide) ?_
  refine lv_lshl hx hb dL_law_258 rfl ?_
  refine lv_aload_n hx hb dL_law_259 rfl (lv_at hl 0 rfl) ?_
  refine lv_iload_n hx hb dL_law_260 rfl (lv_at hl 3 rfl) ?_
  refine lv_iconst (v := (4 : Int32)) hx hb dL_law_261 (by decide) ?_
  refine lv_iadd hx hb dL_law_262 ?_
  refine va_sld hx hb hX hbl hbA hS (sc_in hi hL 4 (by decide) (by decide)) dL_law_263 ?_
  refine lv_i2l hx hb dL_law_264 rfl ?_
  refine lv_ldc2 (v := (4294967295 : Int64)) hx hb hown (hts (.constantLong RL 13 (4294967295)) (by decide +kernel)) dL_law_265 ?_
  refine lv_land hx hb dL_law_268 ?_
  refine lv_lor hx hb dL_law_269 ?_
  refine hc_M (C := RX6) (ci := 2) (T := TX6) (N := 7) (As := [.long (((xs (nI i + (1 : Int32)).toNatClampNeg).toInt64 <<< ((32 : Int32).toInt64 &&& 63)) ||| ((xs (nI i + (2 : Int32)).toNatClampNeg).toInt64 &&& (4294967295 : Int64))), .long (((xs (nI i + (3 : Int32)).toNatClampNeg).toInt64 <<< ((32 : Int32).toInt64 &&& 63)) ||| ((xs (nI i + (4 : Int32)).toNatClampNeg).toInt64 &&& (4294967295 : Int64)))]) (rest := []) ⟨hx, hb, hml, hown, hts⟩ (ct_X6_walls l dC dI ad ca _ u (((xs (nI i + (1 : Int32)).toNatClampNeg).toInt64 <<< ((32 : Int32).toInt64 &&& 63)) ||| ((xs (nI i + (2 : Int32)).toNatClampNeg).toInt64 &&& (4294967295 : Int64))) (((xs (nI i + (3 : Int32)).toNatClampNeg).toInt64 <<< ((32 : Int32).toInt64 &&& 63)) ||| ((xs (nI i + (4 : Int32)).toNatClampNeg).toInt64 &&& (4294967295 : Int64))) ) (cwV 2 hts gL_law_X6_walls rfl rfl rfl (by decide +kernel) ⟨Nat.le_of_ble_eq_true rfl, Nat.le_of_ble_eq_true rfl⟩) hP hD (hK.sub [0, 1, 2, 3, 4, 5] rfl) hNW hS hA [0, 1, 2, 3, 4, 5, 6, 7, 8, 9] [10, 11, 12, 13, 14, 15, 16, 17] rfl (wr := (WM bd cb v)) rfl (by decide) (by decide) (by decide) rfl rfl rfl hl.1 rfl (Nat.le_of_ble_eq_true rfl) dL_law_270 ⟨Nat.le_of_ble_eq_true rfl, Nat.le_of_ble_eq_true rfl⟩ (fun H locs hP hD hS => ?_)
  have hP : va_P (dC, dI) vwCl (WT ad ca ((mX6_walls u (((xs (nI i + (1 : Int32)).toNatClampNeg).toInt64 <<< ((32 : Int32).toInt64 &&& 63)) ||| ((xs (nI i + (2 : Int32)).toNatClampNeg).toInt64 &&& (4294967295 : Int64))) (((xs (nI i + (3 : Int32)).toNatClampNeg).toInt64 <<< ((32 : Int32).toInt64 &&& 63)) ||| ((xs (nI i + (4 : Int32)).toNatClampNeg).toInt64 &&& (4294967295 : Int64)))).2) ++ WM bd cb v) H := hP.sub [8, 9, 10, 11, 12, 13, 14, 15, 16, 17, 0, 1, 2, 3, 4, 5, 6, 7] rfl
  have hD : va_D (fun q : Nat => s.heap.size ≤ q) (WT ad ca ((mX6_walls u (((xs (nI i + (1 : Int32)).toNatClampNeg).toInt64 <<< ((32 : Int32).toInt64 &&& 63)) ||| ((xs (nI i + (2 : Int32)).toNatClampNeg).toInt64 &&& (4294967295 : Int64))) (((xs (nI i + (3 : Int32)).toNatClampNeg).toInt64 <<< ((32 : Int32).toInt64 &&& 63)) ||| ((xs (nI i + (4 : Int32)).toNatClampNeg).toInt64 &&& (4294967295 : Int64)))).2) ++ WM bd cb v) := hD.sub [8, 9, 10, 11, 12, 13, 14, 15, 16, 17, 0, 1, 2, 3, 4, 5, 6, 7] (by decide) rfl
  refine W.eq (g2 := F0 m 273 ls (.int (mX6_walls u (((xs (nI i + (1 : Int32)).toNatClampNeg).toInt64 <<< ((32 : Int32).toInt64 &&& 63)) ||| ((xs (nI i + (2 : Int32)).toNatClampNeg).toInt64 &&& (4294967295 : Int64))) (((xs (nI i + (3 : Int32)).toNatClampNeg).toInt64 <<< ((32 : Int32).toInt64 &&& 63)) ||| ((xs (nI i + (4 : Int32)).toNatClampNeg).toInt64 &&& (4294967295 : Int64)))).1 :: [])) rfl ?_
  refine lv_aload_n hx hb dL_law_273 rfl (lv_at hl 2 rfl) ?_
  refine lv_aload_n hx hb dL_law_274 rfl (lv_at hl 0 rfl) ?_
  refine lv_iload_n hx hb dL_law_275 rfl (lv_at hl 3 rfl) ?_
  refine lv_iconst (v := (1 : Int32)) hx hb dL_law_276 (by decide) ?_
  refine lv_iadd hx hb dL_law_277 ?_
  refine va_sld hx hb hX hbl hbA hS (sc_in hi hL 1 (by decide) (by decide)) dL_law_278 ?_
  refine lv_i2l hx hb dL_law_279 rfl ?_
  refine lv_bipush (v := (32 : Int32)) hx hb dL_law_280 (by decide) ?_
  refine lv_lshl hx hb dL_law_282 rfl ?_
  refine lv_aload_n hx hb dL_law_283 rfl (lv_at hl 0 rfl) ?_
  refine lv_iload_n hx hb dL_law_284 rfl (lv_at hl 3 rfl) ?_
  refine lv_iconst (v := (2 : Int32)) hx hb dL_law_285 (by decide) ?_
  refine lv_iadd hx hb dL_law_286 ?_
  refine va_sld hx hb hX hbl hbA hS (sc_in hi hL 2 (by decide) (by decide)) dL_law_287 ?_
  refine lv_i2l hx hb dL_law_288 rfl ?_
  refine lv_ldc2 (v := (4294967295 : Int64)) hx hb hown (hts (.constantLong RL 13 (4294967295)) (by decide +kernel)) dL_law_289 ?_
  refine lv_land hx hb dL_law_292 ?_
  refine lv_lor hx hb dL_law_293 ?_
  refine lv_aload_n hx hb dL_law_294 rfl (lv_at hl 0 rfl) ?_
  refine lv_iload_n hx hb dL_law_295 rfl (lv_at hl 3 rfl) ?_
  refine lv_iconst (v := (3 : Int32)) hx hb dL_law_296 (by decide) ?_
  refine lv_iadd hx hb dL_law_297 ?_
  refine va_sld hx hb hX hbl hbA hS (sc_in hi hL 3 (by decide) (by decide)) dL_law_298 ?_
  refine lv_i2l hx hb dL_law_299 rfl ?_
  refine lv_bipush (v := (32 : Int32)) hx hb dL_law_300 (by decide) ?_
  refine lv_lshl hx hb dL_law_302 rfl ?_
  refine lv_aload_n hx hb dL_law_303 rfl (lv_at hl 0 rfl) ?_
  refine lv_iload_n hx hb dL_law_304 rfl (lv_at hl 3 rfl) ?_
  refine lv_iconst (v := (4 : Int32)) hx hb dL_law_305 (by decide) ?_
  refine lv_iadd hx hb dL_law_306 ?_
  refine va_sld hx hb hX hbl hbA hS (sc_in hi hL 4 (by decide) (by decide)) dL_law_307 ?_
  refine lv_i2l hx hb dL_law_308 rfl ?_
  refine lv_ldc2 (v := (4294967295 : Int64)) hx hb hown (hts (.constantLong RL 13 (4294967295)) (by decide +kernel)) dL_law_309 ?_
  refine lv_land hx hb dL_law_312 ?_
  refine lv_lor hx hb dL_law_313 ?_
  refine hc_M (C := RX7) (ci := 3) (T := TX7) (N := 17) (As := [.long (((xs (nI i + (1 : Int32)).toNatClampNeg).toInt64 <<< ((32 : Int32).toInt64 &&& 63)) ||| ((xs (nI i + (2 : Int32)).toNatClampNeg).toInt64 &&& (4294967295 : Int64))), .long (((xs (nI i + (3 : Int32)).toNatClampNeg).toInt64 <<< ((32 : Int32).toInt64 &&& 63)) ||| ((xs (nI i + (4 : Int32)).toNatClampNeg).toInt64 &&& (4294967295 : Int64)))]) (rest := [.int ((mX6_walls u (((xs (nI i + (1 : Int32)).toNatClampNeg).toInt64 <<< ((32 : Int32).toInt64 &&& 63)) ||| ((xs (nI i + (2 : Int32)).toNatClampNeg).toInt64 &&& (4294967295 : Int64))) (((xs (nI i + (3 : Int32)).toNatClampNeg).toInt64 <<< ((32 : Int32).toInt64 &&& 63)) ||| ((xs (nI i + (4 : Int32)).toNatClampNeg).toInt64 &&& (4294967295 : Int64)))).1)]) ⟨hx, hb, hml, hown, hts⟩ (ct_X7_walls l dC dI bd cb _ v (((xs (nI i + (1 : Int32)).toNatClampNeg).toInt64 <<< ((32 : Int32).toInt64 &&& 63)) ||| ((xs (nI i + (2 : Int32)).toNatClampNeg).toInt64 &&& (4294967295 : Int64))) (((xs (nI i + (3 : Int32)).toNatClampNeg).toInt64 <<< ((32 : Int32).toInt64 &&& 63)) ||| ((xs (nI i + (4 : Int32)).toNatClampNeg).toInt64 &&& (4294967295 : Int64))) ) (cwV 2 hts gL_law_X7_walls rfl rfl rfl (by decide +kernel) ⟨Nat.le_of_ble_eq_true rfl, Nat.le_of_ble_eq_true rfl⟩) hP hD (hK.sub [6, 7, 8, 9, 10, 11, 12] rfl) hNW hS hA [10, 11, 12, 13, 14, 15, 16, 17] [0, 1, 2, 3, 4, 5, 6, 7, 8, 9] rfl (wr := (WT ad ca ((mX6_walls u (((xs (nI i + (1 : Int32)).toNatClampNeg).toInt64 <<< ((32 : Int32).toInt64 &&& 63)) ||| ((xs (nI i + (2 : Int32)).toNatClampNeg).toInt64 &&& (4294967295 : Int64))) (((xs (nI i + (3 : Int32)).toNatClampNeg).toInt64 <<< ((32 : Int32).toInt64 &&& 63)) ||| ((xs (nI i + (4 : Int32)).toNatClampNeg).toInt64 &&& (4294967295 : Int64)))).2))) rfl (by decide) (by decide) (by decide) rfl rfl rfl hl.1 rfl (Nat.le_of_ble_eq_true rfl) dL_law_314 ⟨Nat.le_of_ble_eq_true rfl, Nat.le_of_ble_eq_true rfl⟩ (fun H locs hP hD hS => ?_)
  have hP : va_P (dC, dI) vwCl (WT ad ca ((mX6_walls u (((xs (nI i + (1 : Int32)).toNatClampNeg).toInt64 <<< ((32 : Int32).toInt64 &&& 63)) ||| ((xs (nI i + (2 : Int32)).toNatClampNeg).toInt64 &&& (4294967295 : Int64))) (((xs (nI i + (3 : Int32)).toNatClampNeg).toInt64 <<< ((32 : Int32).toInt64 &&& 63)) ||| ((xs (nI i + (4 : Int32)).toNatClampNeg).toInt64 &&& (4294967295 : Int64)))).2) ++ WM bd cb ((mX7_walls v (((xs (nI i + (1 : Int32)).toNatClampNeg).toInt64 <<< ((32 : Int32).toInt64 &&& 63)) ||| ((xs (nI i + (2 : Int32)).toNatClampNeg).toInt64 &&& (4294967295 : Int64))) (((xs (nI i + (3 : Int32)).toNatClampNeg).toInt64 <<< ((32 : Int32).toInt64 &&& 63)) ||| ((xs (nI i + (4 : Int32)).toNatClampNeg).toInt64 &&& (4294967295 : Int64)))).2)) H := hP.sub [0, 1, 2, 3, 4, 5, 6, 7, 8, 9, 10, 11, 12, 13, 14, 15, 16, 17] rfl
  have hD : va_D (fun q : Nat => s.heap.size ≤ q) (WT ad ca ((mX6_walls u (((xs (nI i + (1 : Int32)).toNatClampNeg).toInt64 <<< ((32 : Int32).toInt64 &&& 63)) ||| ((xs (nI i + (2 : Int32)).toNatClampNeg).toInt64 &&& (4294967295 : Int64))) (((xs (nI i + (3 : Int32)).toNatClampNeg).toInt64 <<< ((32 : Int32).toInt64 &&& 63)) ||| ((xs (nI i + (4 : Int32)).toNatClampNeg).toInt64 &&& (4294967295 : Int64)))).2) ++ WM bd cb ((mX7_walls v (((xs (nI i + (1 : Int32)).toNatClampNeg).toInt64 <<< ((32 : Int32).toInt64 &&& 63)) ||| ((xs (nI i + (2 : Int32)).toNatClampNeg).toInt64 &&& (4294967295 : Int64))) (((xs (nI i + (3 : Int32)).toNatClampNeg).toInt64 <<< ((32 : Int32).toInt64 &&& 63)) ||| ((xs (nI i + (4 : Int32)).toNatClampNeg).toInt64 &&& (4294967295 : Int64)))).2)) := hD.sub [0, 1, 2, 3, 4, 5, 6, 7, 8, 9, 10, 11, 12, 13, 14, 15, 16, 17] (by decide) rfl
  refine W.eq (g2 := F0 m 317 ls (.int (mX7_walls v (((xs (nI i + (1 : Int32)).toNatClampNeg).toInt64 <<< ((32 : Int32).toInt64 &&& 63)) ||| ((xs (nI i + (2 : Int32)).toNatClampNeg).toInt64 &&& (4294967295 : Int64))) (((xs (nI i + (3 : Int32)).toNatClampNeg).toInt64 <<< ((32 : Int32).toInt64 &&& 63)) ||| ((xs (nI i + (4 : Int32)).toNatClampNeg).toInt64 &&& (4294967295 : Int64)))).1 :: [.int ((mX6_walls u (((xs (nI i + (1 : Int32)).toNatClampNeg).toInt64 <<< ((32 : Int32).toInt64 &&& 63)) ||| ((xs (nI i + (2 : Int32)).toNatClampNeg).toInt64 &&& (4294967295 : Int64))) (((xs (nI i + (3 : Int32)).toNatClampNeg).toInt64 <<< ((32 : Int32).toInt64 &&& 63)) ||| ((xs (nI i + (4 : Int32)).toNatClampNeg).toInt64 &&& (4294967295 : Int64)))).1)])) rfl ?_
  refine lv_icmp_eq (tgt := 1184) hx hb dL_law_317 (by decide) (fun c1 => ?_) (fun c1 => ?_)
  · exact kk _ _ _ _ (sim_walls hR (((xs (nI i + (1 : Int32)).toNatClampNeg).toInt64 <<< ((32 : Int32).toInt64 &&& 63)) ||| ((xs (nI i + (2 : Int32)).toNatClampNeg).toInt64 &&& (4294967295 : Int64))) (((xs (nI i + (3 : Int32)).toNatClampNeg).toInt64 <<< ((32 : Int32).toInt64 &&& 63)) ||| ((xs (nI i + (4 : Int32)).toNatClampNeg).toInt64 &&& (4294967295 : Int64)))).2 hP hD hS
  · exact absurd (sim_walls hR (((xs (nI i + (1 : Int32)).toNatClampNeg).toInt64 <<< ((32 : Int32).toInt64 &&& 63)) ||| ((xs (nI i + (2 : Int32)).toNatClampNeg).toInt64 &&& (4294967295 : Int64))) (((xs (nI i + (3 : Int32)).toNatClampNeg).toInt64 <<< ((32 : Int32).toInt64 &&& 63)) ||| ((xs (nI i + (4 : Int32)).toNatClampNeg).toInt64 &&& (4294967295 : Int64)))).1 c1

set_option maxHeartbeats 4000000 in
set_option maxRecDepth 100000 in
theorem lc_2 {p : Program} {e : Env} {s : State} {m : MethodId} {below : List Frame} {meth : Method} {c : Code} (l : Launch) {b L : Nat} {xs : Nat → Int32} (hL : L ≤ 2560) (C0 : lw_At p s m meth c b L xs) {dC : Nat → ClassId} {dI : Nat → Nat → Nat} {ad : Nat → Nat} {ca : Nat → ClassId} {bd : Nat → Nat} {cb : Nat → ClassId} {i : Nat} (hi : i + 5 ≤ L) {u : TS} {v : MS} (hR : RR u v) {H : Heap} {locs : List Loc} (hNW : NW s) (hK : va_K (dC, dI) vwCl ([((ca 4), .long), ((ca 5), .long), ((ca 6), .long), ((ca 7), .int), ((ca 8), .long), ((ca 9), .long)] ++ [((cb 1), .long), ((cb 2), .int), ((cb 3), .long), ((cb 4), .boolean), ((cb 5), .int), ((cb 6), .long), ((cb 7), .int)]) s) (hP : va_P (dC, dI) vwCl (WT ad ca u ++ WM bd cb v) H) (hD : va_D (fun q : Nat => s.heap.size ≤ q) (WT ad ca u ++ WM bd cb v)) (hS : va_S (fun q : Nat => s.heap.size ≤ q) s.heap H locs) {ls : Array Slot} (hl : lv_has ls 4 [(0, .ref b), (1, .ref (ad 0)), (2, .ref (bd 0)), (3, .int (nI i))]) (kk : ∀ (u : TS) (v : MS) (H : Heap) (locs : List Loc), RR u v → va_P (dC, dI) vwCl (WT ad ca u ++ WM bd cb v) H → va_D (fun q : Nat => s.heap.size ≤ q) (WT ad ca u ++ WM bd cb v) → va_S (fun q : Nat => s.heap.size ≤ q) s.heap H locs → W p l e room_1 s m #[Value.ref b] below meth c H locs 18 182 (lw_Z below #[Value.ref b] s) (F0 m 1184 ls [])) : W p l e room_1 s m #[Value.ref b] below meth c H locs 18 182 (lw_Z below #[Value.ref b] s) (F0 m 322 ls []) := by
  obtain ⟨hx, hb, hr, hml, hown0, hts0, hX, hbl, hlocks, hgv⟩ := C0
  have hts : ∀ w ∈ wsL_law, w.before #[Value.ref b] s = true := fun w h => hts0 w (wsL_law_in w h)
  have hown : s.vm.findClass RL = some m.cls := hown0
  have hA : ∀ q : Nat, s.heap.size ≤ q → (fun q : Nat => s.heap.size ≤ q) q := fun _ h => h
  have hbA : ¬ (fun q : Nat => s.heap.size ≤ q) b := Nat.not_le.mpr hbl
  refine lv_aload_n hx hb dL_law_322 rfl (lv_at hl 1 rfl) ?_
  refine lv_aload_n hx hb dL_law_323 rfl (lv_at hl 0 rfl) ?_
  refine lv_iload_n hx hb dL_law_324 rfl (lv_at hl 3 rfl) ?_
  refine lv_iconst (v := (1 : Int32)) hx hb dL_law_325 (by decide) ?_
  refine lv_iadd hx hb dL_law_326 ?_
  refine va_sld hx hb hX hbl hbA hS (sc_in hi hL 1 (by decide) (by decide)) dL_law_327 ?_
  refine lv_aload_n hx hb dL_law_328 rfl (lv_at hl 0 rfl) ?_
  refine lv_iload_n hx hb dL_law_329 rfl (lv_at hl 3 rfl) ?_
  refine lv_iconst (v := (2 : Int32)) hx hb dL_law_330 (by decide) ?_
  refine lv_iadd hx hb dL_law_331 ?_
  refine va_sld hx hb hX hbl hbA hS (sc_in hi hL 2 (by decide) (by decide)) dL_law_332 ?_
  refine hc_M (C := RX6) (ci := 2) (T := TX6) (N := 7) (As := [.int (xs (nI i + (1 : Int32)).toNatClampNeg), .int (xs (nI i + (2 : Int32)).toNatClampNeg)]) (rest := []) ⟨hx, hb, hml, hown, hts⟩ (ct_X6_rails l dC dI ad ca _ u (xs (nI i + (1 : Int32)).toNatClampNeg) (xs (nI i + (2 : Int32)).toNatClampNeg) ) (cwV 2 hts gL_law_X6_rails rfl rfl rfl (by decide +kernel) ⟨Nat.le_of_ble_eq_true rfl, Nat.le_of_ble_eq_true rfl⟩) hP hD (hK.sub [0, 1, 2, 3, 4, 5] rfl) hNW hS hA [0, 1, 2, 3, 4, 5, 6, 7, 8, 9] [10, 11, 12, 13, 14, 15, 16, 17] rfl (wr := (WM bd cb v)) rfl (by decide) (by decide) (by decide) rfl rfl rfl hl.1 rfl (Nat.le_of_ble_eq_true rfl) dL_law_333 ⟨Nat.le_of_ble_eq_true rfl, Nat.le_of_ble_eq_true rfl⟩ (fun H locs hP hD hS => ?_)
  have hP : va_P (dC, dI) vwCl (WT ad ca ((mX6_rails u (xs (nI i + (1 : Int32)).toNatClampNeg) (xs (nI i + (2 : Int32)).toNatClampNeg)).2) ++ WM bd cb v) H := hP.sub [8, 9, 10, 11, 12, 13, 14, 15, 16, 17, 0, 1, 2, 3, 4, 5, 6, 7] rfl
  have hD : va_D (fun q : Nat => s.heap.size ≤ q) (WT ad ca ((mX6_rails u (xs (nI i + (1 : Int32)).toNatClampNeg) (xs (nI i + (2 : Int32)).toNatClampNeg)).2) ++ WM bd cb v) := hD.sub [8, 9, 10, 11, 12, 13, 14, 15, 16, 17, 0, 1, 2, 3, 4, 5, 6, 7] (by decide) rfl
  refine W.eq (g2 := F0 m 336 ls (.int (mX6_rails u (xs (nI i + (1 : Int32)).toNatClampNeg) (xs (nI i + (2 : Int32)).toNatClampNeg)).1 :: [])) rfl ?_
  refine lv_aload_n hx hb dL_law_336 rfl (lv_at hl 2 rfl) ?_
  refine lv_aload_n hx hb dL_law_337 rfl (lv_at hl 0 rfl) ?_
  refine lv_iload_n hx hb dL_law_338 rfl (lv_at hl 3 rfl) ?_
  refine lv_iconst (v := (1 : Int32)) hx hb dL_law_339 (by decide) ?_
  refine lv_iadd hx hb dL_law_340 ?_
  refine va_sld hx hb hX hbl hbA hS (sc_in hi hL 1 (by decide) (by decide)) dL_law_341 ?_
  refine lv_aload_n hx hb dL_law_342 rfl (lv_at hl 0 rfl) ?_
  refine lv_iload_n hx hb dL_law_343 rfl (lv_at hl 3 rfl) ?_
  refine lv_iconst (v := (2 : Int32)) hx hb dL_law_344 (by decide) ?_
  refine lv_iadd hx hb dL_law_345 ?_
  refine va_sld hx hb hX hbl hbA hS (sc_in hi hL 2 (by decide) (by decide)) dL_law_346 ?_
  refine hc_M (C := RX7) (ci := 3) (T := TX7) (N := 17) (As := [.int (xs (nI i + (1 : Int32)).toNatClampNeg), .int (xs (nI i + (2 : Int32)).toNatClampNeg)]) (rest := [.int ((mX6_rails u (xs (nI i + (1 : Int32)).toNatClampNeg) (xs (nI i + (2 : Int32)).toNatClampNeg)).1)]) ⟨hx, hb, hml, hown, hts⟩ (ct_X7_rails l dC dI bd cb _ v (xs (nI i + (1 : Int32)).toNatClampNeg) (xs (nI i + (2 : Int32)).toNatClampNeg) ) (cwV 2 hts gL_law_X7_rails rfl rfl rfl (by decide +kernel) ⟨Nat.le_of_ble_eq_true rfl, Nat.le_of_ble_eq_true rfl⟩) hP hD (hK.sub [6, 7, 8, 9, 10, 11, 12] rfl) hNW hS hA [10, 11, 12, 13, 14, 15, 16, 17] [0, 1, 2, 3, 4, 5, 6, 7, 8, 9] rfl (wr := (WT ad ca ((mX6_rails u (xs (nI i + (1 : Int32)).toNatClampNeg) (xs (nI i + (2 : Int32)).toNatClampNeg)).2))) rfl (by decide) (by decide) (by decide) rfl rfl rfl hl.1 rfl (Nat.le_of_ble_eq_true rfl) dL_law_347 ⟨Nat.le_of_ble_eq_true rfl, Nat.le_of_ble_eq_true rfl⟩ (fun H locs hP hD hS => ?_)
  have hP : va_P (dC, dI) vwCl (WT ad ca ((mX6_rails u (xs (nI i + (1 : Int32)).toNatClampNeg) (xs (nI i + (2 : Int32)).toNatClampNeg)).2) ++ WM bd cb ((mX7_rails v (xs (nI i + (1 : Int32)).toNatClampNeg) (xs (nI i + (2 : Int32)).toNatClampNeg)).2)) H := hP.sub [0, 1, 2, 3, 4, 5, 6, 7, 8, 9, 10, 11, 12, 13, 14, 15, 16, 17] rfl
  have hD : va_D (fun q : Nat => s.heap.size ≤ q) (WT ad ca ((mX6_rails u (xs (nI i + (1 : Int32)).toNatClampNeg) (xs (nI i + (2 : Int32)).toNatClampNeg)).2) ++ WM bd cb ((mX7_rails v (xs (nI i + (1 : Int32)).toNatClampNeg) (xs (nI i + (2 : Int32)).toNatClampNeg)).2)) := hD.sub [0, 1, 2, 3, 4, 5, 6, 7, 8, 9, 10, 11, 12, 13, 14, 15, 16, 17] (by decide) rfl
  refine W.eq (g2 := F0 m 350 ls (.int (mX7_rails v (xs (nI i + (1 : Int32)).toNatClampNeg) (xs (nI i + (2 : Int32)).toNatClampNeg)).1 :: [.int ((mX6_rails u (xs (nI i + (1 : Int32)).toNatClampNeg) (xs (nI i + (2 : Int32)).toNatClampNeg)).1)])) rfl ?_
  refine lv_icmp_eq (tgt := 1184) hx hb dL_law_350 (by decide) (fun c1 => ?_) (fun c1 => ?_)
  · exact kk _ _ _ _ (sim_rails hR (xs (nI i + (1 : Int32)).toNatClampNeg) (xs (nI i + (2 : Int32)).toNatClampNeg)).2 hP hD hS
  · exact absurd (sim_rails hR (xs (nI i + (1 : Int32)).toNatClampNeg) (xs (nI i + (2 : Int32)).toNatClampNeg)).1 c1

set_option maxHeartbeats 4000000 in
set_option maxRecDepth 100000 in
theorem lc_3 {p : Program} {e : Env} {s : State} {m : MethodId} {below : List Frame} {meth : Method} {c : Code} (l : Launch) {b L : Nat} {xs : Nat → Int32} (hL : L ≤ 2560) (C0 : lw_At p s m meth c b L xs) {dC : Nat → ClassId} {dI : Nat → Nat → Nat} {ad : Nat → Nat} {ca : Nat → ClassId} {bd : Nat → Nat} {cb : Nat → ClassId} {i : Nat} (hi : i + 5 ≤ L) {u : TS} {v : MS} (hR : RR u v) {H : Heap} {locs : List Loc} (hNW : NW s) (hK : va_K (dC, dI) vwCl ([((ca 4), .long), ((ca 5), .long), ((ca 6), .long), ((ca 7), .int), ((ca 8), .long), ((ca 9), .long)] ++ [((cb 1), .long), ((cb 2), .int), ((cb 3), .long), ((cb 4), .boolean), ((cb 5), .int), ((cb 6), .long), ((cb 7), .int)]) s) (hP : va_P (dC, dI) vwCl (WT ad ca u ++ WM bd cb v) H) (hD : va_D (fun q : Nat => s.heap.size ≤ q) (WT ad ca u ++ WM bd cb v)) (hS : va_S (fun q : Nat => s.heap.size ≤ q) s.heap H locs) {ls : Array Slot} (hl : lv_has ls 4 [(0, .ref b), (1, .ref (ad 0)), (2, .ref (bd 0)), (3, .int (nI i))]) (kk : ∀ (u : TS) (v : MS) (H : Heap) (locs : List Loc), RR u v → va_P (dC, dI) vwCl (WT ad ca u ++ WM bd cb v) H → va_D (fun q : Nat => s.heap.size ≤ q) (WT ad ca u ++ WM bd cb v) → va_S (fun q : Nat => s.heap.size ≤ q) s.heap H locs → W p l e room_1 s m #[Value.ref b] below meth c H locs 18 182 (lw_Z below #[Value.ref b] s) (F0 m 1184 ls [])) : W p l e room_1 s m #[Value.ref b] below meth c H locs 18 182 (lw_Z below #[Value.ref b] s) (F0 m 355 ls []) := by
  obtain ⟨hx, hb, hr, hml, hown0, hts0, hX, hbl, hlocks, hgv⟩ := C0
  have hts : ∀ w ∈ wsL_law, w.before #[Value.ref b] s = true := fun w h => hts0 w (wsL_law_in w h)
  have hown : s.vm.findClass RL = some m.cls := hown0
  have hA : ∀ q : Nat, s.heap.size ≤ q → (fun q : Nat => s.heap.size ≤ q) q := fun _ h => h
  have hbA : ¬ (fun q : Nat => s.heap.size ≤ q) b := Nat.not_le.mpr hbl
  refine lv_aload_n hx hb dL_law_355 rfl (lv_at hl 1 rfl) ?_
  refine lv_aload_n hx hb dL_law_356 rfl (lv_at hl 0 rfl) ?_
  refine lv_iload_n hx hb dL_law_357 rfl (lv_at hl 3 rfl) ?_
  refine lv_iconst (v := (1 : Int32)) hx hb dL_law_358 (by decide) ?_
  refine lv_iadd hx hb dL_law_359 ?_
  refine va_sld hx hb hX hbl hbA hS (sc_in hi hL 1 (by decide) (by decide)) dL_law_360 ?_
  refine lv_i2l hx hb dL_law_361 rfl ?_
  refine lv_bipush (v := (32 : Int32)) hx hb dL_law_362 (by decide) ?_
  refine lv_lshl hx hb dL_law_364 rfl ?_
  refine lv_aload_n hx hb dL_law_365 rfl (lv_at hl 0 rfl) ?_
  refine lv_iload_n hx hb dL_law_366 rfl (lv_at hl 3 rfl) ?_
  refine lv_iconst (v := (2 : Int32)) hx hb dL_law_367 (by decide) ?_
  refine lv_iadd hx hb dL_law_368 ?_
  refine va_sld hx hb hX hbl hbA hS (sc_in hi hL 2 (by decide) (by decide)) dL_law_369 ?_
  refine lv_i2l hx hb dL_law_370 rfl ?_
  refine lv_ldc2 (v := (4294967295 : Int64)) hx hb hown (hts (.constantLong RL 13 (4294967295)) (by decide +kernel)) dL_law_371 ?_
  refine lv_land hx hb dL_law_374 ?_
  refine lv_lor hx hb dL_law_375 ?_
  refine lv_aload_n hx hb dL_law_376 rfl (lv_at hl 0 rfl) ?_
  refine lv_iload_n hx hb dL_law_377 rfl (lv_at hl 3 rfl) ?_
  refine lv_iconst (v := (3 : Int32)) hx hb dL_law_378 (by decide) ?_
  refine lv_iadd hx hb dL_law_379 ?_
  refine va_sld hx hb hX hbl hbA hS (sc_in hi hL 3 (by decide) (by decide)) dL_law_380 ?_
  refine hc_M (C := RX6) (ci := 2) (T := TX6) (N := 7) (As := [.long (((xs (nI i + (1 : Int32)).toNatClampNeg).toInt64 <<< ((32 : Int32).toInt64 &&& 63)) ||| ((xs (nI i + (2 : Int32)).toNatClampNeg).toInt64 &&& (4294967295 : Int64))), .int (xs (nI i + (3 : Int32)).toNatClampNeg)]) (rest := []) ⟨hx, hb, hml, hown, hts⟩ (ct_X6_steps l dC dI ad ca _ u (((xs (nI i + (1 : Int32)).toNatClampNeg).toInt64 <<< ((32 : Int32).toInt64 &&& 63)) ||| ((xs (nI i + (2 : Int32)).toNatClampNeg).toInt64 &&& (4294967295 : Int64))) (xs (nI i + (3 : Int32)).toNatClampNeg) ) (cwV 2 hts gL_law_X6_steps rfl rfl rfl (by decide +kernel) ⟨Nat.le_of_ble_eq_true rfl, Nat.le_of_ble_eq_true rfl⟩) hP hD (hK.sub [0, 1, 2, 3, 4, 5] rfl) hNW hS hA [0, 1, 2, 3, 4, 5, 6, 7, 8, 9] [10, 11, 12, 13, 14, 15, 16, 17] rfl (wr := (WM bd cb v)) rfl (by decide) (by decide) (by decide) rfl rfl rfl hl.1 rfl (Nat.le_of_ble_eq_true rfl) dL_law_381 ⟨Nat.le_of_ble_eq_true rfl, Nat.le_of_ble_eq_true rfl⟩ (fun H locs hP hD hS => ?_)
  have hP : va_P (dC, dI) vwCl (WT ad ca ((mX6_steps u (((xs (nI i + (1 : Int32)).toNatClampNeg).toInt64 <<< ((32 : Int32).toInt64 &&& 63)) ||| ((xs (nI i + (2 : Int32)).toNatClampNeg).toInt64 &&& (4294967295 : Int64))) (xs (nI i + (3 : Int32)).toNatClampNeg)).2) ++ WM bd cb v) H := hP.sub [8, 9, 10, 11, 12, 13, 14, 15, 16, 17, 0, 1, 2, 3, 4, 5, 6, 7] rfl
  have hD : va_D (fun q : Nat => s.heap.size ≤ q) (WT ad ca ((mX6_steps u (((xs (nI i + (1 : Int32)).toNatClampNeg).toInt64 <<< ((32 : Int32).toInt64 &&& 63)) ||| ((xs (nI i + (2 : Int32)).toNatClampNeg).toInt64 &&& (4294967295 : Int64))) (xs (nI i + (3 : Int32)).toNatClampNeg)).2) ++ WM bd cb v) := hD.sub [8, 9, 10, 11, 12, 13, 14, 15, 16, 17, 0, 1, 2, 3, 4, 5, 6, 7] (by decide) rfl
  refine W.eq (g2 := F0 m 384 ls (.int (mX6_steps u (((xs (nI i + (1 : Int32)).toNatClampNeg).toInt64 <<< ((32 : Int32).toInt64 &&& 63)) ||| ((xs (nI i + (2 : Int32)).toNatClampNeg).toInt64 &&& (4294967295 : Int64))) (xs (nI i + (3 : Int32)).toNatClampNeg)).1 :: [])) rfl ?_
  refine lv_aload_n hx hb dL_law_384 rfl (lv_at hl 2 rfl) ?_
  refine lv_aload_n hx hb dL_law_385 rfl (lv_at hl 0 rfl) ?_
  refine lv_iload_n hx hb dL_law_386 rfl (lv_at hl 3 rfl) ?_
  refine lv_iconst (v := (1 : Int32)) hx hb dL_law_387 (by decide) ?_
  refine lv_iadd hx hb dL_law_388 ?_
  refine va_sld hx hb hX hbl hbA hS (sc_in hi hL 1 (by decide) (by decide)) dL_law_389 ?_
  refine lv_i2l hx hb dL_law_390 rfl ?_
  refine lv_bipush (v := (32 : Int32)) hx hb dL_law_391 (by decide) ?_
  refine lv_lshl hx hb dL_law_393 rfl ?_
  refine lv_aload_n hx hb dL_law_394 rfl (lv_at hl 0 rfl) ?_
  refine lv_iload_n hx hb dL_law_395 rfl (lv_at hl 3 rfl) ?_
  refine lv_iconst (v := (2 : Int32)) hx hb dL_law_396 (by decide) ?_
  refine lv_iadd hx hb dL_law_397 ?_
  refine va_sld hx hb hX hbl hbA hS (sc_in hi hL 2 (by decide) (by decide)) dL_law_398 ?_
  refine lv_i2l hx hb dL_law_399 rfl ?_
  refine lv_ldc2 (v := (4294967295 : Int64)) hx hb hown (hts (.constantLong RL 13 (4294967295)) (by decide +kernel)) dL_law_400 ?_
  refine lv_land hx hb dL_law_403 ?_
  refine lv_lor hx hb dL_law_404 ?_
  refine lv_aload_n hx hb dL_law_405 rfl (lv_at hl 0 rfl) ?_
  refine lv_iload_n hx hb dL_law_406 rfl (lv_at hl 3 rfl) ?_
  refine lv_iconst (v := (3 : Int32)) hx hb dL_law_407 (by decide) ?_
  refine lv_iadd hx hb dL_law_408 ?_
  refine va_sld hx hb hX hbl hbA hS (sc_in hi hL 3 (by decide) (by decide)) dL_law_409 ?_
  refine hc_M (C := RX7) (ci := 3) (T := TX7) (N := 17) (As := [.long (((xs (nI i + (1 : Int32)).toNatClampNeg).toInt64 <<< ((32 : Int32).toInt64 &&& 63)) ||| ((xs (nI i + (2 : Int32)).toNatClampNeg).toInt64 &&& (4294967295 : Int64))), .int (xs (nI i + (3 : Int32)).toNatClampNeg)]) (rest := [.int ((mX6_steps u (((xs (nI i + (1 : Int32)).toNatClampNeg).toInt64 <<< ((32 : Int32).toInt64 &&& 63)) ||| ((xs (nI i + (2 : Int32)).toNatClampNeg).toInt64 &&& (4294967295 : Int64))) (xs (nI i + (3 : Int32)).toNatClampNeg)).1)]) ⟨hx, hb, hml, hown, hts⟩ (ct_X7_steps l dC dI bd cb _ v (((xs (nI i + (1 : Int32)).toNatClampNeg).toInt64 <<< ((32 : Int32).toInt64 &&& 63)) ||| ((xs (nI i + (2 : Int32)).toNatClampNeg).toInt64 &&& (4294967295 : Int64))) (xs (nI i + (3 : Int32)).toNatClampNeg) ) (cwV 2 hts gL_law_X7_steps rfl rfl rfl (by decide +kernel) ⟨Nat.le_of_ble_eq_true rfl, Nat.le_of_ble_eq_true rfl⟩) hP hD (hK.sub [6, 7, 8, 9, 10, 11, 12] rfl) hNW hS hA [10, 11, 12, 13, 14, 15, 16, 17] [0, 1, 2, 3, 4, 5, 6, 7, 8, 9] rfl (wr := (WT ad ca ((mX6_steps u (((xs (nI i + (1 : Int32)).toNatClampNeg).toInt64 <<< ((32 : Int32).toInt64 &&& 63)) ||| ((xs (nI i + (2 : Int32)).toNatClampNeg).toInt64 &&& (4294967295 : Int64))) (xs (nI i + (3 : Int32)).toNatClampNeg)).2))) rfl (by decide) (by decide) (by decide) rfl rfl rfl hl.1 rfl (Nat.le_of_ble_eq_true rfl) dL_law_410 ⟨Nat.le_of_ble_eq_true rfl, Nat.le_of_ble_eq_true rfl⟩ (fun H locs hP hD hS => ?_)
  have hP : va_P (dC, dI) vwCl (WT ad ca ((mX6_steps u (((xs (nI i + (1 : Int32)).toNatClampNeg).toInt64 <<< ((32 : Int32).toInt64 &&& 63)) ||| ((xs (nI i + (2 : Int32)).toNatClampNeg).toInt64 &&& (4294967295 : Int64))) (xs (nI i + (3 : Int32)).toNatClampNeg)).2) ++ WM bd cb ((mX7_steps v (((xs (nI i + (1 : Int32)).toNatClampNeg).toInt64 <<< ((32 : Int32).toInt64 &&& 63)) ||| ((xs (nI i + (2 : Int32)).toNatClampNeg).toInt64 &&& (4294967295 : Int64))) (xs (nI i + (3 : Int32)).toNatClampNeg)).2)) H := hP.sub [0, 1, 2, 3, 4, 5, 6, 7, 8, 9, 10, 11, 12, 13, 14, 15, 16, 17] rfl
  have hD : va_D (fun q : Nat => s.heap.size ≤ q) (WT ad ca ((mX6_steps u (((xs (nI i + (1 : Int32)).toNatClampNeg).toInt64 <<< ((32 : Int32).toInt64 &&& 63)) ||| ((xs (nI i + (2 : Int32)).toNatClampNeg).toInt64 &&& (4294967295 : Int64))) (xs (nI i + (3 : Int32)).toNatClampNeg)).2) ++ WM bd cb ((mX7_steps v (((xs (nI i + (1 : Int32)).toNatClampNeg).toInt64 <<< ((32 : Int32).toInt64 &&& 63)) ||| ((xs (nI i + (2 : Int32)).toNatClampNeg).toInt64 &&& (4294967295 : Int64))) (xs (nI i + (3 : Int32)).toNatClampNeg)).2)) := hD.sub [0, 1, 2, 3, 4, 5, 6, 7, 8, 9, 10, 11, 12, 13, 14, 15, 16, 17] (by decide) rfl
  refine W.eq (g2 := F0 m 413 ls (.int (mX7_steps v (((xs (nI i + (1 : Int32)).toNatClampNeg).toInt64 <<< ((32 : Int32).toInt64 &&& 63)) ||| ((xs (nI i + (2 : Int32)).toNatClampNeg).toInt64 &&& (4294967295 : Int64))) (xs (nI i + (3 : Int32)).toNatClampNeg)).1 :: [.int ((mX6_steps u (((xs (nI i + (1 : Int32)).toNatClampNeg).toInt64 <<< ((32 : Int32).toInt64 &&& 63)) ||| ((xs (nI i + (2 : Int32)).toNatClampNeg).toInt64 &&& (4294967295 : Int64))) (xs (nI i + (3 : Int32)).toNatClampNeg)).1)])) rfl ?_
  refine lv_icmp_eq (tgt := 1184) hx hb dL_law_413 (by decide) (fun c1 => ?_) (fun c1 => ?_)
  · exact kk _ _ _ _ (sim_steps hR (((xs (nI i + (1 : Int32)).toNatClampNeg).toInt64 <<< ((32 : Int32).toInt64 &&& 63)) ||| ((xs (nI i + (2 : Int32)).toNatClampNeg).toInt64 &&& (4294967295 : Int64))) (xs (nI i + (3 : Int32)).toNatClampNeg)).2 hP hD hS
  · exact absurd (sim_steps hR (((xs (nI i + (1 : Int32)).toNatClampNeg).toInt64 <<< ((32 : Int32).toInt64 &&& 63)) ||| ((xs (nI i + (2 : Int32)).toNatClampNeg).toInt64 &&& (4294967295 : Int64))) (xs (nI i + (3 : Int32)).toNatClampNeg)).1 c1

set_option maxHeartbeats 4000000 in
set_option maxRecDepth 100000 in
theorem lc_4 {p : Program} {e : Env} {s : State} {m : MethodId} {below : List Frame} {meth : Method} {c : Code} (l : Launch) {b L : Nat} {xs : Nat → Int32} (hL : L ≤ 2560) (C0 : lw_At p s m meth c b L xs) {dC : Nat → ClassId} {dI : Nat → Nat → Nat} {ad : Nat → Nat} {ca : Nat → ClassId} {bd : Nat → Nat} {cb : Nat → ClassId} {i : Nat} (hi : i + 5 ≤ L) {u : TS} {v : MS} (hR : RR u v) {H : Heap} {locs : List Loc} (hNW : NW s) (hK : va_K (dC, dI) vwCl ([((ca 4), .long), ((ca 5), .long), ((ca 6), .long), ((ca 7), .int), ((ca 8), .long), ((ca 9), .long)] ++ [((cb 1), .long), ((cb 2), .int), ((cb 3), .long), ((cb 4), .boolean), ((cb 5), .int), ((cb 6), .long), ((cb 7), .int)]) s) (hP : va_P (dC, dI) vwCl (WT ad ca u ++ WM bd cb v) H) (hD : va_D (fun q : Nat => s.heap.size ≤ q) (WT ad ca u ++ WM bd cb v)) (hS : va_S (fun q : Nat => s.heap.size ≤ q) s.heap H locs) {ls : Array Slot} (hl : lv_has ls 4 [(0, .ref b), (1, .ref (ad 0)), (2, .ref (bd 0)), (3, .int (nI i))]) (kk : ∀ (u : TS) (v : MS) (H : Heap) (locs : List Loc), RR u v → va_P (dC, dI) vwCl (WT ad ca u ++ WM bd cb v) H → va_D (fun q : Nat => s.heap.size ≤ q) (WT ad ca u ++ WM bd cb v) → va_S (fun q : Nat => s.heap.size ≤ q) s.heap H locs → W p l e room_1 s m #[Value.ref b] below meth c H locs 18 182 (lw_Z below #[Value.ref b] s) (F0 m 1184 ls [])) : W p l e room_1 s m #[Value.ref b] below meth c H locs 18 182 (lw_Z below #[Value.ref b] s) (F0 m 418 ls []) := by
  obtain ⟨hx, hb, hr, hml, hown0, hts0, hX, hbl, hlocks, hgv⟩ := C0
  have hts : ∀ w ∈ wsL_law, w.before #[Value.ref b] s = true := fun w h => hts0 w (wsL_law_in w h)
  have hown : s.vm.findClass RL = some m.cls := hown0
  have hA : ∀ q : Nat, s.heap.size ≤ q → (fun q : Nat => s.heap.size ≤ q) q := fun _ h => h
  have hbA : ¬ (fun q : Nat => s.heap.size ≤ q) b := Nat.not_le.mpr hbl
  refine lv_aload_n hx hb dL_law_418 rfl (lv_at hl 1 rfl) ?_
  refine lv_aload_n hx hb dL_law_419 rfl (lv_at hl 0 rfl) ?_
  refine lv_iload_n hx hb dL_law_420 rfl (lv_at hl 3 rfl) ?_
  refine lv_iconst (v := (1 : Int32)) hx hb dL_law_421 (by decide) ?_
  refine lv_iadd hx hb dL_law_422 ?_
  refine va_sld hx hb hX hbl hbA hS (sc_in hi hL 1 (by decide) (by decide)) dL_law_423 ?_
  refine lv_aload_n hx hb dL_law_424 rfl (lv_at hl 0 rfl) ?_
  refine lv_iload_n hx hb dL_law_425 rfl (lv_at hl 3 rfl) ?_
  refine lv_iconst (v := (2 : Int32)) hx hb dL_law_426 (by decide) ?_
  refine lv_iadd hx hb dL_law_427 ?_
  refine va_sld hx hb hX hbl hbA hS (sc_in hi hL 2 (by decide) (by decide)) dL_law_428 ?_
  refine lv_i2l hx hb dL_law_429 rfl ?_
  refine lv_bipush (v := (32 : Int32)) hx hb dL_law_430 (by decide) ?_
  refine lv_lshl hx hb dL_law_432 rfl ?_
  refine lv_aload_n hx hb dL_law_433 rfl (lv_at hl 0 rfl) ?_
  refine lv_iload_n hx hb dL_law_434 rfl (lv_at hl 3 rfl) ?_
  refine lv_iconst (v := (3 : Int32)) hx hb dL_law_435 (by decide) ?_
  refine lv_iadd hx hb dL_law_436 ?_
  refine va_sld hx hb hX hbl hbA hS (sc_in hi hL 3 (by decide) (by decide)) dL_law_437 ?_
  refine lv_i2l hx hb dL_law_438 rfl ?_
  refine lv_ldc2 (v := (4294967295 : Int64)) hx hb hown (hts (.constantLong RL 13 (4294967295)) (by decide +kernel)) dL_law_439 ?_
  refine lv_land hx hb dL_law_442 ?_
  refine lv_lor hx hb dL_law_443 ?_
  refine lv_aload_n hx hb dL_law_444 rfl (lv_at hl 0 rfl) ?_
  refine lv_iload_n hx hb dL_law_445 rfl (lv_at hl 3 rfl) ?_
  refine lv_iconst (v := (4 : Int32)) hx hb dL_law_446 (by decide) ?_
  refine lv_iadd hx hb dL_law_447 ?_
  refine va_sld hx hb hX hbl hbA hS (sc_in hi hL 4 (by decide) (by decide)) dL_law_448 ?_
  refine hc_M (C := RX6) (ci := 2) (T := TX6) (N := 7) (As := [.int (xs (nI i + (1 : Int32)).toNatClampNeg), .long (((xs (nI i + (2 : Int32)).toNatClampNeg).toInt64 <<< ((32 : Int32).toInt64 &&& 63)) ||| ((xs (nI i + (3 : Int32)).toNatClampNeg).toInt64 &&& (4294967295 : Int64))), .int (xs (nI i + (4 : Int32)).toNatClampNeg)]) (rest := []) ⟨hx, hb, hml, hown, hts⟩ (ct_X6_move l dC dI ad ca _ u (xs (nI i + (1 : Int32)).toNatClampNeg) (((xs (nI i + (2 : Int32)).toNatClampNeg).toInt64 <<< ((32 : Int32).toInt64 &&& 63)) ||| ((xs (nI i + (3 : Int32)).toNatClampNeg).toInt64 &&& (4294967295 : Int64))) (xs (nI i + (4 : Int32)).toNatClampNeg) hR.hn (hR.mv6w (xs (nI i + (1 : Int32)).toNatClampNeg) (((xs (nI i + (2 : Int32)).toNatClampNeg).toInt64 <<< ((32 : Int32).toInt64 &&& 63)) ||| ((xs (nI i + (3 : Int32)).toNatClampNeg).toInt64 &&& (4294967295 : Int64)))) (hR.mv6h (xs (nI i + (1 : Int32)).toNatClampNeg) (xs (nI i + (4 : Int32)).toNatClampNeg))) (cwV 3 hts gL_law_X6_move rfl rfl rfl (by decide +kernel) ⟨Nat.le_of_ble_eq_true rfl, Nat.le_of_ble_eq_true rfl⟩) hP hD (hK.sub [0, 1, 2, 3, 4, 5] rfl) hNW hS hA [0, 1, 2, 3, 4, 5, 6, 7, 8, 9] [10, 11, 12, 13, 14, 15, 16, 17] rfl (wr := (WM bd cb v)) rfl (by decide) (by decide) (by decide) rfl rfl rfl hl.1 rfl (Nat.le_of_ble_eq_true rfl) dL_law_449 ⟨Nat.le_of_ble_eq_true rfl, Nat.le_of_ble_eq_true rfl⟩ (fun H locs hP hD hS => ?_)
  have hP : va_P (dC, dI) vwCl (WT ad ca ((mX6_move u (xs (nI i + (1 : Int32)).toNatClampNeg) (((xs (nI i + (2 : Int32)).toNatClampNeg).toInt64 <<< ((32 : Int32).toInt64 &&& 63)) ||| ((xs (nI i + (3 : Int32)).toNatClampNeg).toInt64 &&& (4294967295 : Int64))) (xs (nI i + (4 : Int32)).toNatClampNeg)).2) ++ WM bd cb v) H := hP.sub [8, 9, 10, 11, 12, 13, 14, 15, 16, 17, 0, 1, 2, 3, 4, 5, 6, 7] rfl
  have hD : va_D (fun q : Nat => s.heap.size ≤ q) (WT ad ca ((mX6_move u (xs (nI i + (1 : Int32)).toNatClampNeg) (((xs (nI i + (2 : Int32)).toNatClampNeg).toInt64 <<< ((32 : Int32).toInt64 &&& 63)) ||| ((xs (nI i + (3 : Int32)).toNatClampNeg).toInt64 &&& (4294967295 : Int64))) (xs (nI i + (4 : Int32)).toNatClampNeg)).2) ++ WM bd cb v) := hD.sub [8, 9, 10, 11, 12, 13, 14, 15, 16, 17, 0, 1, 2, 3, 4, 5, 6, 7] (by decide) rfl
  refine W.eq (g2 := F0 m 452 ls (.int (mX6_move u (xs (nI i + (1 : Int32)).toNatClampNeg) (((xs (nI i + (2 : Int32)).toNatClampNeg).toInt64 <<< ((32 : Int32).toInt64 &&& 63)) ||| ((xs (nI i + (3 : Int32)).toNatClampNeg).toInt64 &&& (4294967295 : Int64))) (xs (nI i + (4 : Int32)).toNatClampNeg)).1 :: [])) rfl ?_
  refine lv_aload_n hx hb dL_law_452 rfl (lv_at hl 2 rfl) ?_
  refine lv_aload_n hx hb dL_law_453 rfl (lv_at hl 0 rfl) ?_
  refine lv_iload_n hx hb dL_law_454 rfl (lv_at hl 3 rfl) ?_
  refine lv_iconst (v := (1 : Int32)) hx hb dL_law_455 (by decide) ?_
  refine lv_iadd hx hb dL_law_456 ?_
  refine va_sld hx hb hX hbl hbA hS (sc_in hi hL 1 (by decide) (by decide)) dL_law_457 ?_
  refine lv_aload_n hx hb dL_law_458 rfl (lv_at hl 0 rfl) ?_
  refine lv_iload_n hx hb dL_law_459 rfl (lv_at hl 3 rfl) ?_
  refine lv_iconst (v := (2 : Int32)) hx hb dL_law_460 (by decide) ?_
  refine lv_iadd hx hb dL_law_461 ?_
  refine va_sld hx hb hX hbl hbA hS (sc_in hi hL 2 (by decide) (by decide)) dL_law_462 ?_
  refine lv_i2l hx hb dL_law_463 rfl ?_
  refine lv_bipush (v := (32 : Int32)) hx hb dL_law_464 (by decide) ?_
  refine lv_lshl hx hb dL_law_466 rfl ?_
  refine lv_aload_n hx hb dL_law_467 rfl (lv_at hl 0 rfl) ?_
  refine lv_iload_n hx hb dL_law_468 rfl (lv_at hl 3 rfl) ?_
  refine lv_iconst (v := (3 : Int32)) hx hb dL_law_469 (by decide) ?_
  refine lv_iadd hx hb dL_law_470 ?_
  refine va_sld hx hb hX hbl hbA hS (sc_in hi hL 3 (by decide) (by decide)) dL_law_471 ?_
  refine lv_i2l hx hb dL_law_472 rfl ?_
  refine lv_ldc2 (v := (4294967295 : Int64)) hx hb hown (hts (.constantLong RL 13 (4294967295)) (by decide +kernel)) dL_law_473 ?_
  refine lv_land hx hb dL_law_476 ?_
  refine lv_lor hx hb dL_law_477 ?_
  refine lv_aload_n hx hb dL_law_478 rfl (lv_at hl 0 rfl) ?_
  refine lv_iload_n hx hb dL_law_479 rfl (lv_at hl 3 rfl) ?_
  refine lv_iconst (v := (4 : Int32)) hx hb dL_law_480 (by decide) ?_
  refine lv_iadd hx hb dL_law_481 ?_
  refine va_sld hx hb hX hbl hbA hS (sc_in hi hL 4 (by decide) (by decide)) dL_law_482 ?_
  refine hc_M (C := RX7) (ci := 3) (T := TX7) (N := 17) (As := [.int (xs (nI i + (1 : Int32)).toNatClampNeg), .long (((xs (nI i + (2 : Int32)).toNatClampNeg).toInt64 <<< ((32 : Int32).toInt64 &&& 63)) ||| ((xs (nI i + (3 : Int32)).toNatClampNeg).toInt64 &&& (4294967295 : Int64))), .int (xs (nI i + (4 : Int32)).toNatClampNeg)]) (rest := [.int ((mX6_move u (xs (nI i + (1 : Int32)).toNatClampNeg) (((xs (nI i + (2 : Int32)).toNatClampNeg).toInt64 <<< ((32 : Int32).toInt64 &&& 63)) ||| ((xs (nI i + (3 : Int32)).toNatClampNeg).toInt64 &&& (4294967295 : Int64))) (xs (nI i + (4 : Int32)).toNatClampNeg)).1)]) ⟨hx, hb, hml, hown, hts⟩ (ct_X7_move l dC dI bd cb _ v (xs (nI i + (1 : Int32)).toNatClampNeg) (((xs (nI i + (2 : Int32)).toNatClampNeg).toInt64 <<< ((32 : Int32).toInt64 &&& 63)) ||| ((xs (nI i + (3 : Int32)).toNatClampNeg).toInt64 &&& (4294967295 : Int64))) (xs (nI i + (4 : Int32)).toNatClampNeg) hR.ht hR.hsx hR.hsy (RR.dx7 (((xs (nI i + (2 : Int32)).toNatClampNeg).toInt64 <<< ((32 : Int32).toInt64 &&& 63)) ||| ((xs (nI i + (3 : Int32)).toNatClampNeg).toInt64 &&& (4294967295 : Int64)))) (RR.dy7 (xs (nI i + (4 : Int32)).toNatClampNeg)) (hR.mv7w (xs (nI i + (1 : Int32)).toNatClampNeg) (((xs (nI i + (2 : Int32)).toNatClampNeg).toInt64 <<< ((32 : Int32).toInt64 &&& 63)) ||| ((xs (nI i + (3 : Int32)).toNatClampNeg).toInt64 &&& (4294967295 : Int64)))) (hR.mv7h (xs (nI i + (1 : Int32)).toNatClampNeg) (xs (nI i + (4 : Int32)).toNatClampNeg))) (cwV 3 hts gL_law_X7_move rfl rfl rfl (by decide +kernel) ⟨Nat.le_of_ble_eq_true rfl, Nat.le_of_ble_eq_true rfl⟩) hP hD (hK.sub [6, 7, 8, 9, 10, 11, 12] rfl) hNW hS hA [10, 11, 12, 13, 14, 15, 16, 17] [0, 1, 2, 3, 4, 5, 6, 7, 8, 9] rfl (wr := (WT ad ca ((mX6_move u (xs (nI i + (1 : Int32)).toNatClampNeg) (((xs (nI i + (2 : Int32)).toNatClampNeg).toInt64 <<< ((32 : Int32).toInt64 &&& 63)) ||| ((xs (nI i + (3 : Int32)).toNatClampNeg).toInt64 &&& (4294967295 : Int64))) (xs (nI i + (4 : Int32)).toNatClampNeg)).2))) rfl (by decide) (by decide) (by decide) rfl rfl rfl hl.1 rfl (Nat.le_of_ble_eq_true rfl) dL_law_483 ⟨Nat.le_of_ble_eq_true rfl, Nat.le_of_ble_eq_true rfl⟩ (fun H locs hP hD hS => ?_)
  have hP : va_P (dC, dI) vwCl (WT ad ca ((mX6_move u (xs (nI i + (1 : Int32)).toNatClampNeg) (((xs (nI i + (2 : Int32)).toNatClampNeg).toInt64 <<< ((32 : Int32).toInt64 &&& 63)) ||| ((xs (nI i + (3 : Int32)).toNatClampNeg).toInt64 &&& (4294967295 : Int64))) (xs (nI i + (4 : Int32)).toNatClampNeg)).2) ++ WM bd cb ((mX7_move v (xs (nI i + (1 : Int32)).toNatClampNeg) (((xs (nI i + (2 : Int32)).toNatClampNeg).toInt64 <<< ((32 : Int32).toInt64 &&& 63)) ||| ((xs (nI i + (3 : Int32)).toNatClampNeg).toInt64 &&& (4294967295 : Int64))) (xs (nI i + (4 : Int32)).toNatClampNeg)).2)) H := hP.sub [0, 1, 2, 3, 4, 5, 6, 7, 8, 9, 10, 11, 12, 13, 14, 15, 16, 17] rfl
  have hD : va_D (fun q : Nat => s.heap.size ≤ q) (WT ad ca ((mX6_move u (xs (nI i + (1 : Int32)).toNatClampNeg) (((xs (nI i + (2 : Int32)).toNatClampNeg).toInt64 <<< ((32 : Int32).toInt64 &&& 63)) ||| ((xs (nI i + (3 : Int32)).toNatClampNeg).toInt64 &&& (4294967295 : Int64))) (xs (nI i + (4 : Int32)).toNatClampNeg)).2) ++ WM bd cb ((mX7_move v (xs (nI i + (1 : Int32)).toNatClampNeg) (((xs (nI i + (2 : Int32)).toNatClampNeg).toInt64 <<< ((32 : Int32).toInt64 &&& 63)) ||| ((xs (nI i + (3 : Int32)).toNatClampNeg).toInt64 &&& (4294967295 : Int64))) (xs (nI i + (4 : Int32)).toNatClampNeg)).2)) := hD.sub [0, 1, 2, 3, 4, 5, 6, 7, 8, 9, 10, 11, 12, 13, 14, 15, 16, 17] (by decide) rfl
  refine W.eq (g2 := F0 m 486 ls (.int (mX7_move v (xs (nI i + (1 : Int32)).toNatClampNeg) (((xs (nI i + (2 : Int32)).toNatClampNeg).toInt64 <<< ((32 : Int32).toInt64 &&& 63)) ||| ((xs (nI i + (3 : Int32)).toNatClampNeg).toInt64 &&& (4294967295 : Int64))) (xs (nI i + (4 : Int32)).toNatClampNeg)).1 :: [.int ((mX6_move u (xs (nI i + (1 : Int32)).toNatClampNeg) (((xs (nI i + (2 : Int32)).toNatClampNeg).toInt64 <<< ((32 : Int32).toInt64 &&& 63)) ||| ((xs (nI i + (3 : Int32)).toNatClampNeg).toInt64 &&& (4294967295 : Int64))) (xs (nI i + (4 : Int32)).toNatClampNeg)).1)])) rfl ?_
  refine lv_icmp_eq (tgt := 1184) hx hb dL_law_486 (by decide) (fun c1 => ?_) (fun c1 => ?_)
  · exact kk _ _ _ _ (sim_move hR (xs (nI i + (1 : Int32)).toNatClampNeg) (((xs (nI i + (2 : Int32)).toNatClampNeg).toInt64 <<< ((32 : Int32).toInt64 &&& 63)) ||| ((xs (nI i + (3 : Int32)).toNatClampNeg).toInt64 &&& (4294967295 : Int64))) (xs (nI i + (4 : Int32)).toNatClampNeg)).2 hP hD hS
  · exact absurd (sim_move hR (xs (nI i + (1 : Int32)).toNatClampNeg) (((xs (nI i + (2 : Int32)).toNatClampNeg).toInt64 <<< ((32 : Int32).toInt64 &&& 63)) ||| ((xs (nI i + (3 : Int32)).toNatClampNeg).toInt64 &&& (4294967295 : Int64))) (xs (nI i + (4 : Int32)).toNatClampNeg)).1 c1

set_option maxHeartbeats 4000000 in
set_option maxRecDepth 100000 in
theorem lc_5 {p : Program} {e : Env} {s : State} {m : MethodId} {below : List Frame} {meth : Method} {c : Code} (l : Launch) {b L : Nat} {xs : Nat → Int32} (hL : L ≤ 2560) (C0 : lw_At p s m meth c b L xs) {dC : Nat → ClassId} {dI : Nat → Nat → Nat} {ad : Nat → Nat} {ca : Nat → ClassId} {bd : Nat → Nat} {cb : Nat → ClassId} {i : Nat} (hi : i + 5 ≤ L) {u : TS} {v : MS} (hR : RR u v) {H : Heap} {locs : List Loc} (hNW : NW s) (hK : va_K (dC, dI) vwCl ([((ca 4), .long), ((ca 5), .long), ((ca 6), .long), ((ca 7), .int), ((ca 8), .long), ((ca 9), .long)] ++ [((cb 1), .long), ((cb 2), .int), ((cb 3), .long), ((cb 4), .boolean), ((cb 5), .int), ((cb 6), .long), ((cb 7), .int)]) s) (hP : va_P (dC, dI) vwCl (WT ad ca u ++ WM bd cb v) H) (hD : va_D (fun q : Nat => s.heap.size ≤ q) (WT ad ca u ++ WM bd cb v)) (hS : va_S (fun q : Nat => s.heap.size ≤ q) s.heap H locs) {ls : Array Slot} (hl : lv_has ls 4 [(0, .ref b), (1, .ref (ad 0)), (2, .ref (bd 0)), (3, .int (nI i))]) (kk : ∀ (u : TS) (v : MS) (H : Heap) (locs : List Loc), RR u v → va_P (dC, dI) vwCl (WT ad ca u ++ WM bd cb v) H → va_D (fun q : Nat => s.heap.size ≤ q) (WT ad ca u ++ WM bd cb v) → va_S (fun q : Nat => s.heap.size ≤ q) s.heap H locs → W p l e room_1 s m #[Value.ref b] below meth c H locs 18 182 (lw_Z below #[Value.ref b] s) (F0 m 1184 ls [])) : W p l e room_1 s m #[Value.ref b] below meth c H locs 18 182 (lw_Z below #[Value.ref b] s) (F0 m 491 ls []) := by
  obtain ⟨hx, hb, hr, hml, hown0, hts0, hX, hbl, hlocks, hgv⟩ := C0
  have hts : ∀ w ∈ wsL_law, w.before #[Value.ref b] s = true := fun w h => hts0 w (wsL_law_in w h)
  have hown : s.vm.findClass RL = some m.cls := hown0
  have hA : ∀ q : Nat, s.heap.size ≤ q → (fun q : Nat => s.heap.size ≤ q) q := fun _ h => h
  have hbA : ¬ (fun q : Nat => s.heap.size ≤ q) b := Nat.not_le.mpr hbl
  refine lv_aload_n hx hb dL_law_491 rfl (lv_at hl 1 rfl) ?_
  refine lv_aload_n hx hb dL_law_492 rfl (lv_at hl 0 rfl) ?_
  refine lv_iload_n hx hb dL_law_493 rfl (lv_at hl 3 rfl) ?_
  refine lv_iconst (v := (1 : Int32)) hx hb dL_law_494 (by decide) ?_
  refine lv_iadd hx hb dL_law_495 ?_
  refine va_sld hx hb hX hbl hbA hS (sc_in hi hL 1 (by decide) (by decide)) dL_law_496 ?_
  refine lv_aload_n hx hb dL_law_497 rfl (lv_at hl 0 rfl) ?_
  refine lv_iload_n hx hb dL_law_498 rfl (lv_at hl 3 rfl) ?_
  refine lv_iconst (v := (2 : Int32)) hx hb dL_law_499 (by decide) ?_
  refine lv_iadd hx hb dL_law_500 ?_
  refine va_sld hx hb hX hbl hbA hS (sc_in hi hL 2 (by decide) (by decide)) dL_law_501 ?_
  refine hc_M (C := RX6) (ci := 2) (T := TX6) (N := 7) (As := [.int (xs (nI i + (1 : Int32)).toNatClampNeg), .int (xs (nI i + (2 : Int32)).toNatClampNeg)]) (rest := []) ⟨hx, hb, hml, hown, hts⟩ (ct_X6_snap l dC dI ad ca _ u (xs (nI i + (1 : Int32)).toNatClampNeg) (xs (nI i + (2 : Int32)).toNatClampNeg) hR.hn (hR.dW (xs (nI i + (1 : Int32)).toNatClampNeg)) (hR.sn6w (xs (nI i + (1 : Int32)).toNatClampNeg) (xs (nI i + (2 : Int32)).toNatClampNeg)) (hR.dH (xs (nI i + (1 : Int32)).toNatClampNeg)) (hR.sn6h (xs (nI i + (1 : Int32)).toNatClampNeg) (xs (nI i + (2 : Int32)).toNatClampNeg))) (cwV 2 hts gL_law_X6_snap rfl rfl rfl (by decide +kernel) ⟨Nat.le_of_ble_eq_true rfl, Nat.le_of_ble_eq_true rfl⟩) hP hD (hK.sub [0, 1, 2, 3, 4, 5] rfl) hNW hS hA [0, 1, 2, 3, 4, 5, 6, 7, 8, 9] [10, 11, 12, 13, 14, 15, 16, 17] rfl (wr := (WM bd cb v)) rfl (by decide) (by decide) (by decide) rfl rfl rfl hl.1 rfl (Nat.le_of_ble_eq_true rfl) dL_law_502 ⟨Nat.le_of_ble_eq_true rfl, Nat.le_of_ble_eq_true rfl⟩ (fun H locs hP hD hS => ?_)
  have hP : va_P (dC, dI) vwCl (WT ad ca ((mX6_snap u (xs (nI i + (1 : Int32)).toNatClampNeg) (xs (nI i + (2 : Int32)).toNatClampNeg)).2) ++ WM bd cb v) H := hP.sub [8, 9, 10, 11, 12, 13, 14, 15, 16, 17, 0, 1, 2, 3, 4, 5, 6, 7] rfl
  have hD : va_D (fun q : Nat => s.heap.size ≤ q) (WT ad ca ((mX6_snap u (xs (nI i + (1 : Int32)).toNatClampNeg) (xs (nI i + (2 : Int32)).toNatClampNeg)).2) ++ WM bd cb v) := hD.sub [8, 9, 10, 11, 12, 13, 14, 15, 16, 17, 0, 1, 2, 3, 4, 5, 6, 7] (by decide) rfl
  refine W.eq (g2 := F0 m 505 ls (.int (mX6_snap u (xs (nI i + (1 : Int32)).toNatClampNeg) (xs (nI i + (2 : Int32)).toNatClampNeg)).1 :: [])) rfl ?_
  refine lv_aload_n hx hb dL_law_505 rfl (lv_at hl 2 rfl) ?_
  refine lv_aload_n hx hb dL_law_506 rfl (lv_at hl 0 rfl) ?_
  refine lv_iload_n hx hb dL_law_507 rfl (lv_at hl 3 rfl) ?_
  refine lv_iconst (v := (1 : Int32)) hx hb dL_law_508 (by decide) ?_
  refine lv_iadd hx hb dL_law_509 ?_
  refine va_sld hx hb hX hbl hbA hS (sc_in hi hL 1 (by decide) (by decide)) dL_law_510 ?_
  refine lv_aload_n hx hb dL_law_511 rfl (lv_at hl 0 rfl) ?_
  refine lv_iload_n hx hb dL_law_512 rfl (lv_at hl 3 rfl) ?_
  refine lv_iconst (v := (2 : Int32)) hx hb dL_law_513 (by decide) ?_
  refine lv_iadd hx hb dL_law_514 ?_
  refine va_sld hx hb hX hbl hbA hS (sc_in hi hL 2 (by decide) (by decide)) dL_law_515 ?_
  refine hc_M (C := RX7) (ci := 3) (T := TX7) (N := 17) (As := [.int (xs (nI i + (1 : Int32)).toNatClampNeg), .int (xs (nI i + (2 : Int32)).toNatClampNeg)]) (rest := [.int ((mX6_snap u (xs (nI i + (1 : Int32)).toNatClampNeg) (xs (nI i + (2 : Int32)).toNatClampNeg)).1)]) ⟨hx, hb, hml, hown, hts⟩ (ct_X7_snap l dC dI bd cb _ v (xs (nI i + (1 : Int32)).toNatClampNeg) (xs (nI i + (2 : Int32)).toNatClampNeg) hR.ht hR.hsx hR.hsy hR.hst hR.hgr (hR.d7 (xs (nI i + (1 : Int32)).toNatClampNeg)) (hR.f7 (xs (nI i + (1 : Int32)).toNatClampNeg)) (hR.wx7 (xs (nI i + (1 : Int32)).toNatClampNeg) (xs (nI i + (2 : Int32)).toNatClampNeg)) (hR.wy7 (xs (nI i + (1 : Int32)).toNatClampNeg) (xs (nI i + (2 : Int32)).toNatClampNeg)) (hR.mx7 (xs (nI i + (1 : Int32)).toNatClampNeg) (xs (nI i + (2 : Int32)).toNatClampNeg)) (hR.my7 (xs (nI i + (1 : Int32)).toNatClampNeg) (xs (nI i + (2 : Int32)).toNatClampNeg))) (cwV 2 hts gL_law_X7_snap rfl rfl rfl (by decide +kernel) ⟨Nat.le_of_ble_eq_true rfl, Nat.le_of_ble_eq_true rfl⟩) hP hD (hK.sub [6, 7, 8, 9, 10, 11, 12] rfl) hNW hS hA [10, 11, 12, 13, 14, 15, 16, 17] [0, 1, 2, 3, 4, 5, 6, 7, 8, 9] rfl (wr := (WT ad ca ((mX6_snap u (xs (nI i + (1 : Int32)).toNatClampNeg) (xs (nI i + (2 : Int32)).toNatClampNeg)).2))) rfl (by decide) (by decide) (by decide) rfl rfl rfl hl.1 rfl (Nat.le_of_ble_eq_true rfl) dL_law_516 ⟨Nat.le_of_ble_eq_true rfl, Nat.le_of_ble_eq_true rfl⟩ (fun H locs hP hD hS => ?_)
  have hP : va_P (dC, dI) vwCl (WT ad ca ((mX6_snap u (xs (nI i + (1 : Int32)).toNatClampNeg) (xs (nI i + (2 : Int32)).toNatClampNeg)).2) ++ WM bd cb ((mX7_snap v (xs (nI i + (1 : Int32)).toNatClampNeg) (xs (nI i + (2 : Int32)).toNatClampNeg)).2)) H := hP.sub [0, 1, 2, 3, 4, 5, 6, 7, 8, 9, 10, 11, 12, 13, 14, 15, 16, 17] rfl
  have hD : va_D (fun q : Nat => s.heap.size ≤ q) (WT ad ca ((mX6_snap u (xs (nI i + (1 : Int32)).toNatClampNeg) (xs (nI i + (2 : Int32)).toNatClampNeg)).2) ++ WM bd cb ((mX7_snap v (xs (nI i + (1 : Int32)).toNatClampNeg) (xs (nI i + (2 : Int32)).toNatClampNeg)).2)) := hD.sub [0, 1, 2, 3, 4, 5, 6, 7, 8, 9, 10, 11, 12, 13, 14, 15, 16, 17] (by decide) rfl
  refine W.eq (g2 := F0 m 519 ls (.int (mX7_snap v (xs (nI i + (1 : Int32)).toNatClampNeg) (xs (nI i + (2 : Int32)).toNatClampNeg)).1 :: [.int ((mX6_snap u (xs (nI i + (1 : Int32)).toNatClampNeg) (xs (nI i + (2 : Int32)).toNatClampNeg)).1)])) rfl ?_
  refine lv_icmp_eq (tgt := 1184) hx hb dL_law_519 (by decide) (fun c1 => ?_) (fun c1 => ?_)
  · exact kk _ _ _ _ (sim_snap hR (xs (nI i + (1 : Int32)).toNatClampNeg) (xs (nI i + (2 : Int32)).toNatClampNeg)).2 hP hD hS
  · exact absurd (sim_snap hR (xs (nI i + (1 : Int32)).toNatClampNeg) (xs (nI i + (2 : Int32)).toNatClampNeg)).1 c1

set_option maxHeartbeats 4000000 in
set_option maxRecDepth 100000 in
theorem lc_6 {p : Program} {e : Env} {s : State} {m : MethodId} {below : List Frame} {meth : Method} {c : Code} (l : Launch) {b L : Nat} {xs : Nat → Int32} (hL : L ≤ 2560) (C0 : lw_At p s m meth c b L xs) {dC : Nat → ClassId} {dI : Nat → Nat → Nat} {ad : Nat → Nat} {ca : Nat → ClassId} {bd : Nat → Nat} {cb : Nat → ClassId} {i : Nat} (hi : i + 5 ≤ L) {u : TS} {v : MS} (hR : RR u v) {H : Heap} {locs : List Loc} (hNW : NW s) (hK : va_K (dC, dI) vwCl ([((ca 4), .long), ((ca 5), .long), ((ca 6), .long), ((ca 7), .int), ((ca 8), .long), ((ca 9), .long)] ++ [((cb 1), .long), ((cb 2), .int), ((cb 3), .long), ((cb 4), .boolean), ((cb 5), .int), ((cb 6), .long), ((cb 7), .int)]) s) (hP : va_P (dC, dI) vwCl (WT ad ca u ++ WM bd cb v) H) (hD : va_D (fun q : Nat => s.heap.size ≤ q) (WT ad ca u ++ WM bd cb v)) (hS : va_S (fun q : Nat => s.heap.size ≤ q) s.heap H locs) {ls : Array Slot} (hl : lv_has ls 4 [(0, .ref b), (1, .ref (ad 0)), (2, .ref (bd 0)), (3, .int (nI i))]) (kk : ∀ (u : TS) (v : MS) (H : Heap) (locs : List Loc), RR u v → va_P (dC, dI) vwCl (WT ad ca u ++ WM bd cb v) H → va_D (fun q : Nat => s.heap.size ≤ q) (WT ad ca u ++ WM bd cb v) → va_S (fun q : Nat => s.heap.size ≤ q) s.heap H locs → W p l e room_1 s m #[Value.ref b] below meth c H locs 18 182 (lw_Z below #[Value.ref b] s) (F0 m 1184 ls [])) : W p l e room_1 s m #[Value.ref b] below meth c H locs 18 182 (lw_Z below #[Value.ref b] s) (F0 m 524 ls []) := by
  obtain ⟨hx, hb, hr, hml, hown0, hts0, hX, hbl, hlocks, hgv⟩ := C0
  have hts : ∀ w ∈ wsL_law, w.before #[Value.ref b] s = true := fun w h => hts0 w (wsL_law_in w h)
  have hown : s.vm.findClass RL = some m.cls := hown0
  have hA : ∀ q : Nat, s.heap.size ≤ q → (fun q : Nat => s.heap.size ≤ q) q := fun _ h => h
  have hbA : ¬ (fun q : Nat => s.heap.size ≤ q) b := Nat.not_le.mpr hbl
  refine lv_aload_n hx hb dL_law_524 rfl (lv_at hl 1 rfl) ?_
  refine lv_aload_n hx hb dL_law_525 rfl (lv_at hl 0 rfl) ?_
  refine lv_iload_n hx hb dL_law_526 rfl (lv_at hl 3 rfl) ?_
  refine lv_iconst (v := (1 : Int32)) hx hb dL_law_527 (by decide) ?_
  refine lv_iadd hx hb dL_law_528 ?_
  refine va_sld hx hb hX hbl hbA hS (sc_in hi hL 1 (by decide) (by decide)) dL_law_529 ?_
  refine lv_aload_n hx hb dL_law_530 rfl (lv_at hl 0 rfl) ?_
  refine lv_iload_n hx hb dL_law_531 rfl (lv_at hl 3 rfl) ?_
  refine lv_iconst (v := (2 : Int32)) hx hb dL_law_532 (by decide) ?_
  refine lv_iadd hx hb dL_law_533 ?_
  refine va_sld hx hb hX hbl hbA hS (sc_in hi hL 2 (by decide) (by decide)) dL_law_534 ?_
  refine hc_M (C := RX6) (ci := 2) (T := TX6) (N := 7) (As := [.int (xs (nI i + (1 : Int32)).toNatClampNeg), .int (xs (nI i + (2 : Int32)).toNatClampNeg)]) (rest := []) ⟨hx, hb, hml, hown, hts⟩ (ct_X6_lean l dC dI ad ca _ u (xs (nI i + (1 : Int32)).toNatClampNeg) (xs (nI i + (2 : Int32)).toNatClampNeg) hR.hn) (cwV 2 hts gL_law_X6_lean rfl rfl rfl (by decide +kernel) ⟨Nat.le_of_ble_eq_true rfl, Nat.le_of_ble_eq_true rfl⟩) hP hD (hK.sub [0, 1, 2, 3, 4, 5] rfl) hNW hS hA [0, 1, 2, 3, 4, 5, 6, 7, 8, 9] [10, 11, 12, 13, 14, 15, 16, 17] rfl (wr := (WM bd cb v)) rfl (by decide) (by decide) (by decide) rfl rfl rfl hl.1 rfl (Nat.le_of_ble_eq_true rfl) dL_law_535 ⟨Nat.le_of_ble_eq_true rfl, Nat.le_of_ble_eq_true rfl⟩ (fun H locs hP hD hS => ?_)
  have hP : va_P (dC, dI) vwCl (WT ad ca ((mX6_lean u (xs (nI i + (1 : Int32)).toNatClampNeg) (xs (nI i + (2 : Int32)).toNatClampNeg)).2) ++ WM bd cb v) H := hP.sub [8, 9, 10, 11, 12, 13, 14, 15, 16, 17, 0, 1, 2, 3, 4, 5, 6, 7] rfl
  have hD : va_D (fun q : Nat => s.heap.size ≤ q) (WT ad ca ((mX6_lean u (xs (nI i + (1 : Int32)).toNatClampNeg) (xs (nI i + (2 : Int32)).toNatClampNeg)).2) ++ WM bd cb v) := hD.sub [8, 9, 10, 11, 12, 13, 14, 15, 16, 17, 0, 1, 2, 3, 4, 5, 6, 7] (by decide) rfl
  refine W.eq (g2 := F0 m 538 ls (.int (mX6_lean u (xs (nI i + (1 : Int32)).toNatClampNeg) (xs (nI i + (2 : Int32)).toNatClampNeg)).1 :: [])) rfl ?_
  refine lv_aload_n hx hb dL_law_538 rfl (lv_at hl 2 rfl) ?_
  refine lv_aload_n hx hb dL_law_539 rfl (lv_at hl 0 rfl) ?_
  refine lv_iload_n hx hb dL_law_540 rfl (lv_at hl 3 rfl) ?_
  refine lv_iconst (v := (1 : Int32)) hx hb dL_law_541 (by decide) ?_
  refine lv_iadd hx hb dL_law_542 ?_
  refine va_sld hx hb hX hbl hbA hS (sc_in hi hL 1 (by decide) (by decide)) dL_law_543 ?_
  refine lv_aload_n hx hb dL_law_544 rfl (lv_at hl 0 rfl) ?_
  refine lv_iload_n hx hb dL_law_545 rfl (lv_at hl 3 rfl) ?_
  refine lv_iconst (v := (2 : Int32)) hx hb dL_law_546 (by decide) ?_
  refine lv_iadd hx hb dL_law_547 ?_
  refine va_sld hx hb hX hbl hbA hS (sc_in hi hL 2 (by decide) (by decide)) dL_law_548 ?_
  refine hc_M (C := RX7) (ci := 3) (T := TX7) (N := 17) (As := [.int (xs (nI i + (1 : Int32)).toNatClampNeg), .int (xs (nI i + (2 : Int32)).toNatClampNeg)]) (rest := [.int ((mX6_lean u (xs (nI i + (1 : Int32)).toNatClampNeg) (xs (nI i + (2 : Int32)).toNatClampNeg)).1)]) ⟨hx, hb, hml, hown, hts⟩ (ct_X7_lean l dC dI bd cb _ v (xs (nI i + (1 : Int32)).toNatClampNeg) (xs (nI i + (2 : Int32)).toNatClampNeg) hR.ht) (cwV 2 hts gL_law_X7_lean rfl rfl rfl (by decide +kernel) ⟨Nat.le_of_ble_eq_true rfl, Nat.le_of_ble_eq_true rfl⟩) hP hD (hK.sub [6, 7, 8, 9, 10, 11, 12] rfl) hNW hS hA [10, 11, 12, 13, 14, 15, 16, 17] [0, 1, 2, 3, 4, 5, 6, 7, 8, 9] rfl (wr := (WT ad ca ((mX6_lean u (xs (nI i + (1 : Int32)).toNatClampNeg) (xs (nI i + (2 : Int32)).toNatClampNeg)).2))) rfl (by decide) (by decide) (by decide) rfl rfl rfl hl.1 rfl (Nat.le_of_ble_eq_true rfl) dL_law_549 ⟨Nat.le_of_ble_eq_true rfl, Nat.le_of_ble_eq_true rfl⟩ (fun H locs hP hD hS => ?_)
  have hP : va_P (dC, dI) vwCl (WT ad ca ((mX6_lean u (xs (nI i + (1 : Int32)).toNatClampNeg) (xs (nI i + (2 : Int32)).toNatClampNeg)).2) ++ WM bd cb ((mX7_lean v (xs (nI i + (1 : Int32)).toNatClampNeg) (xs (nI i + (2 : Int32)).toNatClampNeg)).2)) H := hP.sub [0, 1, 2, 3, 4, 5, 6, 7, 8, 9, 10, 11, 12, 13, 14, 15, 16, 17] rfl
  have hD : va_D (fun q : Nat => s.heap.size ≤ q) (WT ad ca ((mX6_lean u (xs (nI i + (1 : Int32)).toNatClampNeg) (xs (nI i + (2 : Int32)).toNatClampNeg)).2) ++ WM bd cb ((mX7_lean v (xs (nI i + (1 : Int32)).toNatClampNeg) (xs (nI i + (2 : Int32)).toNatClampNeg)).2)) := hD.sub [0, 1, 2, 3, 4, 5, 6, 7, 8, 9, 10, 11, 12, 13, 14, 15, 16, 17] (by decide) rfl
  refine W.eq (g2 := F0 m 552 ls (.int (mX7_lean v (xs (nI i + (1 : Int32)).toNatClampNeg) (xs (nI i + (2 : Int32)).toNatClampNeg)).1 :: [.int ((mX6_lean u (xs (nI i + (1 : Int32)).toNatClampNeg) (xs (nI i + (2 : Int32)).toNatClampNeg)).1)])) rfl ?_
  refine lv_icmp_eq (tgt := 1184) hx hb dL_law_552 (by decide) (fun c1 => ?_) (fun c1 => ?_)
  · exact kk _ _ _ _ (sim_lean hR (xs (nI i + (1 : Int32)).toNatClampNeg) (xs (nI i + (2 : Int32)).toNatClampNeg)).2 hP hD hS
  · exact absurd (sim_lean hR (xs (nI i + (1 : Int32)).toNatClampNeg) (xs (nI i + (2 : Int32)).toNatClampNeg)).1 c1

set_option maxHeartbeats 4000000 in
set_option maxRecDepth 100000 in
theorem lc_7 {p : Program} {e : Env} {s : State} {m : MethodId} {below : List Frame} {meth : Method} {c : Code} (l : Launch) {b L : Nat} {xs : Nat → Int32} (hL : L ≤ 2560) (C0 : lw_At p s m meth c b L xs) {dC : Nat → ClassId} {dI : Nat → Nat → Nat} {ad : Nat → Nat} {ca : Nat → ClassId} {bd : Nat → Nat} {cb : Nat → ClassId} {i : Nat} (hi : i + 5 ≤ L) {u : TS} {v : MS} (hR : RR u v) {H : Heap} {locs : List Loc} (hNW : NW s) (hK : va_K (dC, dI) vwCl ([((ca 4), .long), ((ca 5), .long), ((ca 6), .long), ((ca 7), .int), ((ca 8), .long), ((ca 9), .long)] ++ [((cb 1), .long), ((cb 2), .int), ((cb 3), .long), ((cb 4), .boolean), ((cb 5), .int), ((cb 6), .long), ((cb 7), .int)]) s) (hP : va_P (dC, dI) vwCl (WT ad ca u ++ WM bd cb v) H) (hD : va_D (fun q : Nat => s.heap.size ≤ q) (WT ad ca u ++ WM bd cb v)) (hS : va_S (fun q : Nat => s.heap.size ≤ q) s.heap H locs) {ls : Array Slot} (hl : lv_has ls 4 [(0, .ref b), (1, .ref (ad 0)), (2, .ref (bd 0)), (3, .int (nI i))]) (kk : ∀ (u : TS) (v : MS) (H : Heap) (locs : List Loc), RR u v → va_P (dC, dI) vwCl (WT ad ca u ++ WM bd cb v) H → va_D (fun q : Nat => s.heap.size ≤ q) (WT ad ca u ++ WM bd cb v) → va_S (fun q : Nat => s.heap.size ≤ q) s.heap H locs → W p l e room_1 s m #[Value.ref b] below meth c H locs 18 182 (lw_Z below #[Value.ref b] s) (F0 m 1184 ls [])) : W p l e room_1 s m #[Value.ref b] below meth c H locs 18 182 (lw_Z below #[Value.ref b] s) (F0 m 557 ls []) := by
  obtain ⟨hx, hb, hr, hml, hown0, hts0, hX, hbl, hlocks, hgv⟩ := C0
  have hts : ∀ w ∈ wsL_law, w.before #[Value.ref b] s = true := fun w h => hts0 w (wsL_law_in w h)
  have hown : s.vm.findClass RL = some m.cls := hown0
  have hA : ∀ q : Nat, s.heap.size ≤ q → (fun q : Nat => s.heap.size ≤ q) q := fun _ h => h
  have hbA : ¬ (fun q : Nat => s.heap.size ≤ q) b := Nat.not_le.mpr hbl
  refine lv_aload_n hx hb dL_law_557 rfl (lv_at hl 1 rfl) ?_
  refine lv_aload_n hx hb dL_law_558 rfl (lv_at hl 0 rfl) ?_
  refine lv_iload_n hx hb dL_law_559 rfl (lv_at hl 3 rfl) ?_
  refine lv_iconst (v := (1 : Int32)) hx hb dL_law_560 (by decide) ?_
  refine lv_iadd hx hb dL_law_561 ?_
  refine va_sld hx hb hX hbl hbA hS (sc_in hi hL 1 (by decide) (by decide)) dL_law_562 ?_
  refine lv_aload_n hx hb dL_law_563 rfl (lv_at hl 0 rfl) ?_
  refine lv_iload_n hx hb dL_law_564 rfl (lv_at hl 3 rfl) ?_
  refine lv_iconst (v := (2 : Int32)) hx hb dL_law_565 (by decide) ?_
  refine lv_iadd hx hb dL_law_566 ?_
  refine va_sld hx hb hX hbl hbA hS (sc_in hi hL 2 (by decide) (by decide)) dL_law_567 ?_
  refine lv_aload_n hx hb dL_law_568 rfl (lv_at hl 0 rfl) ?_
  refine lv_iload_n hx hb dL_law_569 rfl (lv_at hl 3 rfl) ?_
  refine lv_iconst (v := (3 : Int32)) hx hb dL_law_570 (by decide) ?_
  refine lv_iadd hx hb dL_law_571 ?_
  refine va_sld hx hb hX hbl hbA hS (sc_in hi hL 3 (by decide) (by decide)) dL_law_572 ?_
  refine hc_M (C := RX6) (ci := 2) (T := TX6) (N := 7) (As := [.int (xs (nI i + (1 : Int32)).toNatClampNeg), .int (xs (nI i + (2 : Int32)).toNatClampNeg), .int (xs (nI i + (3 : Int32)).toNatClampNeg)]) (rest := []) ⟨hx, hb, hml, hown, hts⟩ (ct_X6_pull l dC dI ad ca _ u (xs (nI i + (1 : Int32)).toNatClampNeg) (xs (nI i + (2 : Int32)).toNatClampNeg) (xs (nI i + (3 : Int32)).toNatClampNeg) hR.hn) (cwV 3 hts gL_law_X6_pull rfl rfl rfl (by decide +kernel) ⟨Nat.le_of_ble_eq_true rfl, Nat.le_of_ble_eq_true rfl⟩) hP hD (hK.sub [0, 1, 2, 3, 4, 5] rfl) hNW hS hA [0, 1, 2, 3, 4, 5, 6, 7, 8, 9] [10, 11, 12, 13, 14, 15, 16, 17] rfl (wr := (WM bd cb v)) rfl (by decide) (by decide) (by decide) rfl rfl rfl hl.1 rfl (Nat.le_of_ble_eq_true rfl) dL_law_573 ⟨Nat.le_of_ble_eq_true rfl, Nat.le_of_ble_eq_true rfl⟩ (fun H locs hP hD hS => ?_)
  have hP : va_P (dC, dI) vwCl (WT ad ca ((mX6_pull u (xs (nI i + (1 : Int32)).toNatClampNeg) (xs (nI i + (2 : Int32)).toNatClampNeg) (xs (nI i + (3 : Int32)).toNatClampNeg)).2) ++ WM bd cb v) H := hP.sub [8, 9, 10, 11, 12, 13, 14, 15, 16, 17, 0, 1, 2, 3, 4, 5, 6, 7] rfl
  have hD : va_D (fun q : Nat => s.heap.size ≤ q) (WT ad ca ((mX6_pull u (xs (nI i + (1 : Int32)).toNatClampNeg) (xs (nI i + (2 : Int32)).toNatClampNeg) (xs (nI i + (3 : Int32)).toNatClampNeg)).2) ++ WM bd cb v) := hD.sub [8, 9, 10, 11, 12, 13, 14, 15, 16, 17, 0, 1, 2, 3, 4, 5, 6, 7] (by decide) rfl
  refine W.eq (g2 := F0 m 576 ls (.int (mX6_pull u (xs (nI i + (1 : Int32)).toNatClampNeg) (xs (nI i + (2 : Int32)).toNatClampNeg) (xs (nI i + (3 : Int32)).toNatClampNeg)).1 :: [])) rfl ?_
  refine lv_aload_n hx hb dL_law_576 rfl (lv_at hl 2 rfl) ?_
  refine lv_aload_n hx hb dL_law_577 rfl (lv_at hl 0 rfl) ?_
  refine lv_iload_n hx hb dL_law_578 rfl (lv_at hl 3 rfl) ?_
  refine lv_iconst (v := (1 : Int32)) hx hb dL_law_579 (by decide) ?_
  refine lv_iadd hx hb dL_law_580 ?_
  refine va_sld hx hb hX hbl hbA hS (sc_in hi hL 1 (by decide) (by decide)) dL_law_581 ?_
  refine lv_aload_n hx hb dL_law_582 rfl (lv_at hl 0 rfl) ?_
  refine lv_iload_n hx hb dL_law_583 rfl (lv_at hl 3 rfl) ?_
  refine lv_iconst (v := (2 : Int32)) hx hb dL_law_584 (by decide) ?_
  refine lv_iadd hx hb dL_law_585 ?_
  refine va_sld hx hb hX hbl hbA hS (sc_in hi hL 2 (by decide) (by decide)) dL_law_586 ?_
  refine lv_aload_n hx hb dL_law_587 rfl (lv_at hl 0 rfl) ?_
  refine lv_iload_n hx hb dL_law_588 rfl (lv_at hl 3 rfl) ?_
  refine lv_iconst (v := (3 : Int32)) hx hb dL_law_589 (by decide) ?_
  refine lv_iadd hx hb dL_law_590 ?_
  refine va_sld hx hb hX hbl hbA hS (sc_in hi hL 3 (by decide) (by decide)) dL_law_591 ?_
  refine hc_M (C := RX7) (ci := 3) (T := TX7) (N := 17) (As := [.int (xs (nI i + (1 : Int32)).toNatClampNeg), .int (xs (nI i + (2 : Int32)).toNatClampNeg), .int (xs (nI i + (3 : Int32)).toNatClampNeg)]) (rest := [.int ((mX6_pull u (xs (nI i + (1 : Int32)).toNatClampNeg) (xs (nI i + (2 : Int32)).toNatClampNeg) (xs (nI i + (3 : Int32)).toNatClampNeg)).1)]) ⟨hx, hb, hml, hown, hts⟩ (ct_X7_pull l dC dI bd cb _ v (xs (nI i + (1 : Int32)).toNatClampNeg) (xs (nI i + (2 : Int32)).toNatClampNeg) (xs (nI i + (3 : Int32)).toNatClampNeg) hR.ht) (cwV 3 hts gL_law_X7_pull rfl rfl rfl (by decide +kernel) ⟨Nat.le_of_ble_eq_true rfl, Nat.le_of_ble_eq_true rfl⟩) hP hD (hK.sub [6, 7, 8, 9, 10, 11, 12] rfl) hNW hS hA [10, 11, 12, 13, 14, 15, 16, 17] [0, 1, 2, 3, 4, 5, 6, 7, 8, 9] rfl (wr := (WT ad ca ((mX6_pull u (xs (nI i + (1 : Int32)).toNatClampNeg) (xs (nI i + (2 : Int32)).toNatClampNeg) (xs (nI i + (3 : Int32)).toNatClampNeg)).2))) rfl (by decide) (by decide) (by decide) rfl rfl rfl hl.1 rfl (Nat.le_of_ble_eq_true rfl) dL_law_592 ⟨Nat.le_of_ble_eq_true rfl, Nat.le_of_ble_eq_true rfl⟩ (fun H locs hP hD hS => ?_)
  have hP : va_P (dC, dI) vwCl (WT ad ca ((mX6_pull u (xs (nI i + (1 : Int32)).toNatClampNeg) (xs (nI i + (2 : Int32)).toNatClampNeg) (xs (nI i + (3 : Int32)).toNatClampNeg)).2) ++ WM bd cb ((mX7_pull v (xs (nI i + (1 : Int32)).toNatClampNeg) (xs (nI i + (2 : Int32)).toNatClampNeg) (xs (nI i + (3 : Int32)).toNatClampNeg)).2)) H := hP.sub [0, 1, 2, 3, 4, 5, 6, 7, 8, 9, 10, 11, 12, 13, 14, 15, 16, 17] rfl
  have hD : va_D (fun q : Nat => s.heap.size ≤ q) (WT ad ca ((mX6_pull u (xs (nI i + (1 : Int32)).toNatClampNeg) (xs (nI i + (2 : Int32)).toNatClampNeg) (xs (nI i + (3 : Int32)).toNatClampNeg)).2) ++ WM bd cb ((mX7_pull v (xs (nI i + (1 : Int32)).toNatClampNeg) (xs (nI i + (2 : Int32)).toNatClampNeg) (xs (nI i + (3 : Int32)).toNatClampNeg)).2)) := hD.sub [0, 1, 2, 3, 4, 5, 6, 7, 8, 9, 10, 11, 12, 13, 14, 15, 16, 17] (by decide) rfl
  refine W.eq (g2 := F0 m 595 ls (.int (mX7_pull v (xs (nI i + (1 : Int32)).toNatClampNeg) (xs (nI i + (2 : Int32)).toNatClampNeg) (xs (nI i + (3 : Int32)).toNatClampNeg)).1 :: [.int ((mX6_pull u (xs (nI i + (1 : Int32)).toNatClampNeg) (xs (nI i + (2 : Int32)).toNatClampNeg) (xs (nI i + (3 : Int32)).toNatClampNeg)).1)])) rfl ?_
  refine lv_icmp_eq (tgt := 1184) hx hb dL_law_595 (by decide) (fun c1 => ?_) (fun c1 => ?_)
  · exact kk _ _ _ _ (sim_pull hR (xs (nI i + (1 : Int32)).toNatClampNeg) (xs (nI i + (2 : Int32)).toNatClampNeg) (xs (nI i + (3 : Int32)).toNatClampNeg)).2 hP hD hS
  · exact absurd (sim_pull hR (xs (nI i + (1 : Int32)).toNatClampNeg) (xs (nI i + (2 : Int32)).toNatClampNeg) (xs (nI i + (3 : Int32)).toNatClampNeg)).1 c1

set_option maxHeartbeats 4000000 in
set_option maxRecDepth 100000 in
theorem lc_8 {p : Program} {e : Env} {s : State} {m : MethodId} {below : List Frame} {meth : Method} {c : Code} (l : Launch) {b L : Nat} {xs : Nat → Int32} (hL : L ≤ 2560) (C0 : lw_At p s m meth c b L xs) {dC : Nat → ClassId} {dI : Nat → Nat → Nat} {ad : Nat → Nat} {ca : Nat → ClassId} {bd : Nat → Nat} {cb : Nat → ClassId} {i : Nat} (hi : i + 5 ≤ L) {u : TS} {v : MS} (hR : RR u v) {H : Heap} {locs : List Loc} (hNW : NW s) (hK : va_K (dC, dI) vwCl ([((ca 4), .long), ((ca 5), .long), ((ca 6), .long), ((ca 7), .int), ((ca 8), .long), ((ca 9), .long)] ++ [((cb 1), .long), ((cb 2), .int), ((cb 3), .long), ((cb 4), .boolean), ((cb 5), .int), ((cb 6), .long), ((cb 7), .int)]) s) (hP : va_P (dC, dI) vwCl (WT ad ca u ++ WM bd cb v) H) (hD : va_D (fun q : Nat => s.heap.size ≤ q) (WT ad ca u ++ WM bd cb v)) (hS : va_S (fun q : Nat => s.heap.size ≤ q) s.heap H locs) {ls : Array Slot} (hl : lv_has ls 4 [(0, .ref b), (1, .ref (ad 0)), (2, .ref (bd 0)), (3, .int (nI i))]) (kk : ∀ (u : TS) (v : MS) (H : Heap) (locs : List Loc), RR u v → va_P (dC, dI) vwCl (WT ad ca u ++ WM bd cb v) H → va_D (fun q : Nat => s.heap.size ≤ q) (WT ad ca u ++ WM bd cb v) → va_S (fun q : Nat => s.heap.size ≤ q) s.heap H locs → W p l e room_1 s m #[Value.ref b] below meth c H locs 18 182 (lw_Z below #[Value.ref b] s) (F0 m 1184 ls [])) : W p l e room_1 s m #[Value.ref b] below meth c H locs 18 182 (lw_Z below #[Value.ref b] s) (F0 m 600 ls []) := by
  obtain ⟨hx, hb, hr, hml, hown0, hts0, hX, hbl, hlocks, hgv⟩ := C0
  have hts : ∀ w ∈ wsL_law, w.before #[Value.ref b] s = true := fun w h => hts0 w (wsL_law_in w h)
  have hown : s.vm.findClass RL = some m.cls := hown0
  have hA : ∀ q : Nat, s.heap.size ≤ q → (fun q : Nat => s.heap.size ≤ q) q := fun _ h => h
  have hbA : ¬ (fun q : Nat => s.heap.size ≤ q) b := Nat.not_le.mpr hbl
  refine lv_aload_n hx hb dL_law_600 rfl (lv_at hl 1 rfl) ?_
  refine lv_aload_n hx hb dL_law_601 rfl (lv_at hl 0 rfl) ?_
  refine lv_iload_n hx hb dL_law_602 rfl (lv_at hl 3 rfl) ?_
  refine lv_iconst (v := (1 : Int32)) hx hb dL_law_603 (by decide) ?_
  refine lv_iadd hx hb dL_law_604 ?_
  refine va_sld hx hb hX hbl hbA hS (sc_in hi hL 1 (by decide) (by decide)) dL_law_605 ?_
  refine lv_aload_n hx hb dL_law_606 rfl (lv_at hl 0 rfl) ?_
  refine lv_iload_n hx hb dL_law_607 rfl (lv_at hl 3 rfl) ?_
  refine lv_iconst (v := (2 : Int32)) hx hb dL_law_608 (by decide) ?_
  refine lv_iadd hx hb dL_law_609 ?_
  refine va_sld hx hb hX hbl hbA hS (sc_in hi hL 2 (by decide) (by decide)) dL_law_610 ?_
  refine lv_i2l hx hb dL_law_611 rfl ?_
  refine lv_bipush (v := (32 : Int32)) hx hb dL_law_612 (by decide) ?_
  refine lv_lshl hx hb dL_law_614 rfl ?_
  refine lv_aload_n hx hb dL_law_615 rfl (lv_at hl 0 rfl) ?_
  refine lv_iload_n hx hb dL_law_616 rfl (lv_at hl 3 rfl) ?_
  refine lv_iconst (v := (3 : Int32)) hx hb dL_law_617 (by decide) ?_
  refine lv_iadd hx hb dL_law_618 ?_
  refine va_sld hx hb hX hbl hbA hS (sc_in hi hL 3 (by decide) (by decide)) dL_law_619 ?_
  refine lv_i2l hx hb dL_law_620 rfl ?_
  refine lv_ldc2 (v := (4294967295 : Int64)) hx hb hown (hts (.constantLong RL 13 (4294967295)) (by decide +kernel)) dL_law_621 ?_
  refine lv_land hx hb dL_law_624 ?_
  refine lv_lor hx hb dL_law_625 ?_
  refine hc_M (C := RX6) (ci := 2) (T := TX6) (N := 7) (As := [.int (xs (nI i + (1 : Int32)).toNatClampNeg), .long (((xs (nI i + (2 : Int32)).toNatClampNeg).toInt64 <<< ((32 : Int32).toInt64 &&& 63)) ||| ((xs (nI i + (3 : Int32)).toNatClampNeg).toInt64 &&& (4294967295 : Int64)))]) (rest := []) ⟨hx, hb, hml, hown, hts⟩ (ct_X6_swing l dC dI ad ca _ u (xs (nI i + (1 : Int32)).toNatClampNeg) (((xs (nI i + (2 : Int32)).toNatClampNeg).toInt64 <<< ((32 : Int32).toInt64 &&& 63)) ||| ((xs (nI i + (3 : Int32)).toNatClampNeg).toInt64 &&& (4294967295 : Int64))) hR.hn (RR.sw1 (((xs (nI i + (2 : Int32)).toNatClampNeg).toInt64 <<< ((32 : Int32).toInt64 &&& 63)) ||| ((xs (nI i + (3 : Int32)).toNatClampNeg).toInt64 &&& (4294967295 : Int64)))) (hR.sw2 (xs (nI i + (1 : Int32)).toNatClampNeg) (((xs (nI i + (2 : Int32)).toNatClampNeg).toInt64 <<< ((32 : Int32).toInt64 &&& 63)) ||| ((xs (nI i + (3 : Int32)).toNatClampNeg).toInt64 &&& (4294967295 : Int64))))) (cwV 2 hts gL_law_X6_swing rfl rfl rfl (by decide +kernel) ⟨Nat.le_of_ble_eq_true rfl, Nat.le_of_ble_eq_true rfl⟩) hP hD (hK.sub [0, 1, 2, 3, 4, 5] rfl) hNW hS hA [0, 1, 2, 3, 4, 5, 6, 7, 8, 9] [10, 11, 12, 13, 14, 15, 16, 17] rfl (wr := (WM bd cb v)) rfl (by decide) (by decide) (by decide) rfl rfl rfl hl.1 rfl (Nat.le_of_ble_eq_true rfl) dL_law_626 ⟨Nat.le_of_ble_eq_true rfl, Nat.le_of_ble_eq_true rfl⟩ (fun H locs hP hD hS => ?_)
  have hP : va_P (dC, dI) vwCl (WT ad ca ((mX6_swing u (xs (nI i + (1 : Int32)).toNatClampNeg) (((xs (nI i + (2 : Int32)).toNatClampNeg).toInt64 <<< ((32 : Int32).toInt64 &&& 63)) ||| ((xs (nI i + (3 : Int32)).toNatClampNeg).toInt64 &&& (4294967295 : Int64)))).2) ++ WM bd cb v) H := hP.sub [8, 9, 10, 11, 12, 13, 14, 15, 16, 17, 0, 1, 2, 3, 4, 5, 6, 7] rfl
  have hD : va_D (fun q : Nat => s.heap.size ≤ q) (WT ad ca ((mX6_swing u (xs (nI i + (1 : Int32)).toNatClampNeg) (((xs (nI i + (2 : Int32)).toNatClampNeg).toInt64 <<< ((32 : Int32).toInt64 &&& 63)) ||| ((xs (nI i + (3 : Int32)).toNatClampNeg).toInt64 &&& (4294967295 : Int64)))).2) ++ WM bd cb v) := hD.sub [8, 9, 10, 11, 12, 13, 14, 15, 16, 17, 0, 1, 2, 3, 4, 5, 6, 7] (by decide) rfl
  refine W.eq (g2 := F0 m 629 ls (.int (mX6_swing u (xs (nI i + (1 : Int32)).toNatClampNeg) (((xs (nI i + (2 : Int32)).toNatClampNeg).toInt64 <<< ((32 : Int32).toInt64 &&& 63)) ||| ((xs (nI i + (3 : Int32)).toNatClampNeg).toInt64 &&& (4294967295 : Int64)))).1 :: [])) rfl ?_
  refine lv_aload_n hx hb dL_law_629 rfl (lv_at hl 2 rfl) ?_
  refine lv_aload_n hx hb dL_law_630 rfl (lv_at hl 0 rfl) ?_
  refine lv_iload_n hx hb dL_law_631 rfl (lv_at hl 3 rfl) ?_
  refine lv_iconst (v := (1 : Int32)) hx hb dL_law_632 (by decide) ?_
  refine lv_iadd hx hb dL_law_633 ?_
  refine va_sld hx hb hX hbl hbA hS (sc_in hi hL 1 (by decide) (by decide)) dL_law_634 ?_
  refine lv_aload_n hx hb dL_law_635 rfl (lv_at hl 0 rfl) ?_
  refine lv_iload_n hx hb dL_law_636 rfl (lv_at hl 3 rfl) ?_
  refine lv_iconst (v := (2 : Int32)) hx hb dL_law_637 (by decide) ?_
  refine lv_iadd hx hb dL_law_638 ?_
  refine va_sld hx hb hX hbl hbA hS (sc_in hi hL 2 (by decide) (by decide)) dL_law_639 ?_
  refine lv_i2l hx hb dL_law_640 rfl ?_
  refine lv_bipush (v := (32 : Int32)) hx hb dL_law_641 (by decide) ?_
  refine lv_lshl hx hb dL_law_643 rfl ?_
  refine lv_aload_n hx hb dL_law_644 rfl (lv_at hl 0 rfl) ?_
  refine lv_iload_n hx hb dL_law_645 rfl (lv_at hl 3 rfl) ?_
  refine lv_iconst (v := (3 : Int32)) hx hb dL_law_646 (by decide) ?_
  refine lv_iadd hx hb dL_law_647 ?_
  refine va_sld hx hb hX hbl hbA hS (sc_in hi hL 3 (by decide) (by decide)) dL_law_648 ?_
  refine lv_i2l hx hb dL_law_649 rfl ?_
  refine lv_ldc2 (v := (4294967295 : Int64)) hx hb hown (hts (.constantLong RL 13 (4294967295)) (by decide +kernel)) dL_law_650 ?_
  refine lv_land hx hb dL_law_653 ?_
  refine lv_lor hx hb dL_law_654 ?_
  refine hc_M (C := RX7) (ci := 3) (T := TX7) (N := 17) (As := [.int (xs (nI i + (1 : Int32)).toNatClampNeg), .long (((xs (nI i + (2 : Int32)).toNatClampNeg).toInt64 <<< ((32 : Int32).toInt64 &&& 63)) ||| ((xs (nI i + (3 : Int32)).toNatClampNeg).toInt64 &&& (4294967295 : Int64)))]) (rest := [.int ((mX6_swing u (xs (nI i + (1 : Int32)).toNatClampNeg) (((xs (nI i + (2 : Int32)).toNatClampNeg).toInt64 <<< ((32 : Int32).toInt64 &&& 63)) ||| ((xs (nI i + (3 : Int32)).toNatClampNeg).toInt64 &&& (4294967295 : Int64)))).1)]) ⟨hx, hb, hml, hown, hts⟩ (ct_X7_swing l dC dI bd cb _ v (xs (nI i + (1 : Int32)).toNatClampNeg) (((xs (nI i + (2 : Int32)).toNatClampNeg).toInt64 <<< ((32 : Int32).toInt64 &&& 63)) ||| ((xs (nI i + (3 : Int32)).toNatClampNeg).toInt64 &&& (4294967295 : Int64))) hR.ht hR.hsx (RR.dx7 (((xs (nI i + (2 : Int32)).toNatClampNeg).toInt64 <<< ((32 : Int32).toInt64 &&& 63)) ||| ((xs (nI i + (3 : Int32)).toNatClampNeg).toInt64 &&& (4294967295 : Int64)))) (RR.sw7 (((xs (nI i + (2 : Int32)).toNatClampNeg).toInt64 <<< ((32 : Int32).toInt64 &&& 63)) ||| ((xs (nI i + (3 : Int32)).toNatClampNeg).toInt64 &&& (4294967295 : Int64)))) (hR.sw72 (xs (nI i + (1 : Int32)).toNatClampNeg) (((xs (nI i + (2 : Int32)).toNatClampNeg).toInt64 <<< ((32 : Int32).toInt64 &&& 63)) ||| ((xs (nI i + (3 : Int32)).toNatClampNeg).toInt64 &&& (4294967295 : Int64))))) (cwV 2 hts gL_law_X7_swing rfl rfl rfl (by decide +kernel) ⟨Nat.le_of_ble_eq_true rfl, Nat.le_of_ble_eq_true rfl⟩) hP hD (hK.sub [6, 7, 8, 9, 10, 11, 12] rfl) hNW hS hA [10, 11, 12, 13, 14, 15, 16, 17] [0, 1, 2, 3, 4, 5, 6, 7, 8, 9] rfl (wr := (WT ad ca ((mX6_swing u (xs (nI i + (1 : Int32)).toNatClampNeg) (((xs (nI i + (2 : Int32)).toNatClampNeg).toInt64 <<< ((32 : Int32).toInt64 &&& 63)) ||| ((xs (nI i + (3 : Int32)).toNatClampNeg).toInt64 &&& (4294967295 : Int64)))).2))) rfl (by decide) (by decide) (by decide) rfl rfl rfl hl.1 rfl (Nat.le_of_ble_eq_true rfl) dL_law_655 ⟨Nat.le_of_ble_eq_true rfl, Nat.le_of_ble_eq_true rfl⟩ (fun H locs hP hD hS => ?_)
  have hP : va_P (dC, dI) vwCl (WT ad ca ((mX6_swing u (xs (nI i + (1 : Int32)).toNatClampNeg) (((xs (nI i + (2 : Int32)).toNatClampNeg).toInt64 <<< ((32 : Int32).toInt64 &&& 63)) ||| ((xs (nI i + (3 : Int32)).toNatClampNeg).toInt64 &&& (4294967295 : Int64)))).2) ++ WM bd cb ((mX7_swing v (xs (nI i + (1 : Int32)).toNatClampNeg) (((xs (nI i + (2 : Int32)).toNatClampNeg).toInt64 <<< ((32 : Int32).toInt64 &&& 63)) ||| ((xs (nI i + (3 : Int32)).toNatClampNeg).toInt64 &&& (4294967295 : Int64)))).2)) H := hP.sub [0, 1, 2, 3, 4, 5, 6, 7, 8, 9, 10, 11, 12, 13, 14, 15, 16, 17] rfl
  have hD : va_D (fun q : Nat => s.heap.size ≤ q) (WT ad ca ((mX6_swing u (xs (nI i + (1 : Int32)).toNatClampNeg) (((xs (nI i + (2 : Int32)).toNatClampNeg).toInt64 <<< ((32 : Int32).toInt64 &&& 63)) ||| ((xs (nI i + (3 : Int32)).toNatClampNeg).toInt64 &&& (4294967295 : Int64)))).2) ++ WM bd cb ((mX7_swing v (xs (nI i + (1 : Int32)).toNatClampNeg) (((xs (nI i + (2 : Int32)).toNatClampNeg).toInt64 <<< ((32 : Int32).toInt64 &&& 63)) ||| ((xs (nI i + (3 : Int32)).toNatClampNeg).toInt64 &&& (4294967295 : Int64)))).2)) := hD.sub [0, 1, 2, 3, 4, 5, 6, 7, 8, 9, 10, 11, 12, 13, 14, 15, 16, 17] (by decide) rfl
  refine W.eq (g2 := F0 m 658 ls (.int (mX7_swing v (xs (nI i + (1 : Int32)).toNatClampNeg) (((xs (nI i + (2 : Int32)).toNatClampNeg).toInt64 <<< ((32 : Int32).toInt64 &&& 63)) ||| ((xs (nI i + (3 : Int32)).toNatClampNeg).toInt64 &&& (4294967295 : Int64)))).1 :: [.int ((mX6_swing u (xs (nI i + (1 : Int32)).toNatClampNeg) (((xs (nI i + (2 : Int32)).toNatClampNeg).toInt64 <<< ((32 : Int32).toInt64 &&& 63)) ||| ((xs (nI i + (3 : Int32)).toNatClampNeg).toInt64 &&& (4294967295 : Int64)))).1)])) rfl ?_
  refine lv_icmp_eq (tgt := 1184) hx hb dL_law_658 (by decide) (fun c1 => ?_) (fun c1 => ?_)
  · exact kk _ _ _ _ (sim_swing hR (xs (nI i + (1 : Int32)).toNatClampNeg) (((xs (nI i + (2 : Int32)).toNatClampNeg).toInt64 <<< ((32 : Int32).toInt64 &&& 63)) ||| ((xs (nI i + (3 : Int32)).toNatClampNeg).toInt64 &&& (4294967295 : Int64)))).2 hP hD hS
  · exact absurd (sim_swing hR (xs (nI i + (1 : Int32)).toNatClampNeg) (((xs (nI i + (2 : Int32)).toNatClampNeg).toInt64 <<< ((32 : Int32).toInt64 &&& 63)) ||| ((xs (nI i + (3 : Int32)).toNatClampNeg).toInt64 &&& (4294967295 : Int64)))).1 c1
end
