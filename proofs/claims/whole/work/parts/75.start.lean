section
/-! THE START: both objects made, in the relation -/
theorem step0 : StepD (4607182418800017408 : Int64) := ⟨by unfold Ps; decide +kernel, by decide +kernel⟩
theorem stepf0 : StepF (1065353216 : Int32) := ⟨by decide +kernel, by decide +kernel⟩
theorem wd_low : (-4503599627370496 : Int64) = mX3_widened (-8388608 : Int32) := by decide +kernel
theorem wd_high : (9218868437227405312 : Int64) = mX3_widened (2139095040 : Int32) := by decide +kernel
theorem wd_one : (4607182418800017408 : Int64) = mX3_widened (1065353216 : Int32) := by decide +kernel
theorem wd_zero : (0 : Int64) = mX3_widened (0 : Int32) := by decide +kernel
theorem z_low : sz (-4503599627370496 : Int64) ≤ 9218868437227405312 := by decide +kernel
theorem z_high : sz (9218868437227405312 : Int64) = 9218868437227405312 := by decide +kernel
theorem z_zero : sz (0 : Int64) < 9218868437227405312 := by decide +kernel
theorem z4_low : sz4 (-8388608 : Int32) ≤ 2139095040 := by decide +kernel
theorem z4_high : sz4 (2139095040 : Int32) ≤ 2139095040 := by decide +kernel
theorem z4_zero : sz4 (0 : Int32) < 2139095040 := by decide +kernel
theorem RR0 {g : Nat → Int64} (hg : ∀ j, j < 4 → g j = 9218868437227405312) : RR (TS0 g) MS0 := by
  refine ⟨⟨rfl, rfl, rfl⟩, fun k _ => ⟨rfl, z_zero⟩, fun k _ => ⟨wd_zero, z4_zero⟩, ⟨rfl, rfl, rfl, wd_low, wd_high, wd_one, z_low, Nat.le_of_eq z_high, step0, z4_low, z4_high, stepf0⟩, fun k h => Or.inl ⟨rfl, ?_⟩, ⟨0, 0, by decide, by decide, nI_0.symm, nI_0.symm, nI_0.symm, fun j _ => vp_in_nI (n := 0) (by decide) (by decide), fun j h => absurd h (Nat.not_lt_zero j)⟩⟩
  show sz (g k) = _
  rw [hg k h]
  exact z_high
set_option maxHeartbeats 4000000 in
set_option maxRecDepth 100000 in
theorem nw_start {s : State} {b : Nat} (hts0 : ∀ w ∈ lw_tbl, w.before #[Value.ref b] s = true) : NW s := by
  have nw0 : va_Nw (.fieldLinkNest RX6 76 "SnapTable$Axis" "at" "[J" "SnapTable") s := va_Nw.of rfl (hts0 _ (by decide +kernel))
  have nw1 : va_Nw (.fieldLinkNest RX6 68 "SnapTable$Axis" "step" "J" "SnapTable") s := va_Nw.of rfl (hts0 _ (by decide +kernel))
  have nw2 : va_Nw (.fieldLinkNest RX6 128 "SnapTable$Trail" "points" "[I" "SnapTable") s := va_Nw.of rfl (hts0 _ (by decide +kernel))
  have nw3 : va_Nw (.fieldLinkNest RX6 132 "SnapTable$Trail" "widths" "[J" "SnapTable") s := va_Nw.of rfl (hts0 _ (by decide +kernel))
  have nw4 : va_Nw (.fieldLinkNest RX6 134 "SnapTable$Trail" "heights" "[J" "SnapTable") s := va_Nw.of rfl (hts0 _ (by decide +kernel))
  have nw5 : va_Nw (.fieldLinkNest RX6 121 "SnapTable$Trail" "size" "I" "SnapTable") s := va_Nw.of rfl (hts0 _ (by decide +kernel))
  have nw6 : va_Nw (.methodLinkNest RX6 23 yX4_init "SnapTable") s := va_Nw.of rfl (hts0 _ (by decide +kernel))
  exact ⟨nw0, nw1, nw2, nw3, nw4, nw5, nw6⟩
set_option maxHeartbeats 4000000 in
set_option maxRecDepth 100000 in
/-- THE LAW, from its entry -/
theorem whole_start {p : Program} {e : Env} {s : State} {m : MethodId} {below : List Frame} {meth : Method} {c : Code} (l : Launch) {b L : Nat} {xs : Nat → Int32} (hL : L ≤ 2560) (C0 : lw_At p s m meth c b L xs) : W p l e room_1 s m #[Value.ref b] below meth c s.heap [] 0 0 (lw_Z below #[Value.ref b] s) (entryFrame m ([Value.ref b] : List Value).toArray 4) := by
  obtain ⟨hx, hb, hr, hml, hown0, hts0, hX, hbl, hlocks, hgv⟩ := id C0
  have hts : ∀ w ∈ wsL_law, w.before #[Value.ref b] s = true := fun w h => hts0 w (wsL_law_in w h)
  have hown : s.vm.findClass RL = some m.cls := hown0
  have hNW : NW s := nw_start hts0
  have hA : ∀ q : Nat, s.heap.size ≤ q → (fun q : Nat => s.heap.size ≤ q) q := fun _ h => h
  have hbA : ¬ (fun q : Nat => s.heap.size ≤ q) b := Nat.not_le.mpr hbl
  obtain ⟨c0, iS0, hKn0⟩ := u_known (C := RX0) (T := TX0) (N := 5) (n := 5) hts inlX0 (hts (.instantiable RX0 5) (by decide +kernel))
  obtain ⟨c1, iS1, hKn1⟩ := u_known (C := RX4) (T := TX4) (N := 5) (n := 5) hts inlX4 (hts (.instantiable RX4 5) (by decide +kernel))
  obtain ⟨c2, iS2, hKn2⟩ := u_known (C := RX6) (T := TX6) (N := 7) (n := 7) hts inlX6 (hts (.instantiable RX6 7) (by decide +kernel))
  obtain ⟨c3, iS3, hKn3⟩ := u_known (C := RX7) (T := TX7) (N := 17) (n := 17) hts inlX7 (hts (.instantiable RX7 17) (by decide +kernel))
  obtain ⟨dC, dI, hKc⟩ : ∃ (dC : Nat → ClassId) (dI : Nat → Nat → Nat), ∀ (k : Nat) (q : vw_C), vwCl[k]? = some q → u_Kn s q.1 q.2.1 q.2.2 (dC k) (dI k) := by
    refine ⟨fun k => if k = 0 then c0 else if k = 1 then c1 else if k = 2 then c2 else c3, fun k => if k = 0 then iS0 else if k = 1 then iS1 else if k = 2 then iS2 else iS3, ?_⟩
    intro k q hq
    match k, hq with
    | 0, hq => cases hq; exact hKn0
    | 1, hq => cases hq; exact hKn1
    | 2, hq => cases hq; exact hKn2
    | 3, hq => cases hq; exact hKn3
    | k + 4, hq => simp [vwCl] at hq
  have hS : va_S (fun q : Nat => s.heap.size ≤ q) s.heap s.heap [] := va_S.rf
  have hK : va_K (dC, dI) vwCl [] s := ⟨hKc, fun k q h => by simp at h⟩
  have hP : va_P (dC, dI) vwCl [] s.heap := fun k q h => by simp at h
  have hD : va_D (fun q : Nat => s.heap.size ≤ q) [] := ⟨fun i j p q h => by simp at h, fun k q h => by simp at h⟩
  have hl := lv_entry ([.ref b]) (n := 4) (Nat.le_of_ble_eq_true rfl)
  rw [lg_entry_eq]
  generalize (lg_sl ([.ref b]) ++ List.replicate (4 - (lg_sl ([.ref b])).length) Slot.unset).toArray = ls at hl ⊢
  have hl : lv_has ls 4 [(0, .ref b)] := hl
  refine va_new (ci := 2) (fs := [.null, .null, .null, .null, .int 0, .int 0, .int 0]) (C := RX6) (T := TX6) (N := 7) hx hb hts inlX6 tyX6 tyX6_ok hown (hts (.classLink RL 7 RX6) (by decide +kernel)) (hts (.instantiable RX6 7) (by decide +kernel)) (hts (.initialized RX6) (by decide +kernel)) hK hP hD hS hA rfl (fun j hj => by rcases (show j = 0 ∨ j = 1 ∨ j = 2 ∨ j = 3 ∨ j = 4 ∨ j = 5 ∨ j = 6 by omega) with rfl | rfl | rfl | rfl | rfl | rfl | rfl <;> rfl) (Nat.le_of_ble_eq_true rfl) (Nat.le_of_ble_eq_true rfl) dL_law_0 (fun q0 H hP hD hS => ?_)
  have hP : va_P (dC, dI) vwCl [(q0, .inr (2, [.null, .null, .null, .null, .int 0, .int 0, .int 0]))] H := hP
  have hD : va_D (fun q : Nat => s.heap.size ≤ q) [(q0, .inr (2, [.null, .null, .null, .null, .int 0, .int 0, .int 0]))] := hD
  refine W.widen (k := 1) (n := 7) (by decide) (by decide) ?_
  refine lv_dup hx hb dL_law_3 rfl ?_
  have hPc := hP.sub (ws' := [(q0, .inr (2, [.null, .null, .null, .null, .int 0, .int 0, .int 0]))]) [0] rfl
  have hDc := hD.sub (ws' := [(q0, .inr (2, [.null, .null, .null, .null, .int 0, .int 0, .int 0]))]) [0] (by decide) rfl
  have hKc := hK.sub (tys' := []) [] rfl
  have hFc := va_free (wc := [(q0, .inr (2, [.null, .null, .null, .null, .int 0, .int 0, .int 0]))]) hD hS hA [0] rfl
  refine va_callv (va_runI (As := []) (rest := [.ref q0]) ⟨hx, hb, hml, hown, hts⟩ (ct_X6_init l dC dI q0 H.size) (cwI 0 hts gL_law_X6_init rfl rfl rfl (hts (.initialized RX6) (by decide +kernel)) (hts (.methodLink RL 9 yX6_init) (by decide +kernel)) (hts (.instanceMethod yX6_init) (by decide +kernel)) rfl (by decide +kernel) ⟨Nat.le_of_ble_eq_true rfl, Nat.le_of_ble_eq_true rfl⟩) ⟨fun a U g mk q => by obtain ⟨q0, q1, qP, qK, qD, qN⟩ := q; exact ⟨q0, q1, qP, va_K.moved (u := U) (U := U.calling g mk a) (Vm.Alike.refl U.vm) qK, qD, NW.same (u := U) (U := U.calling g mk a) rfl qN⟩, fun U hU hW => ⟨rfl, by rw [hU], by rw [hU]; exact hPc, va_K.moved hW.alike hKc, hDc.weaken (fun _ _ _ _ => trivial), NW.warm hW hNW⟩⟩ rfl rfl hl.1 rfl (lv_room (Nat.le_of_ble_eq_true rfl)) dL_law_4 ⟨Nat.le_of_ble_eq_true rfl, Nat.le_of_ble_eq_true rfl⟩) hS (fun q _ h => hFc q h) hFc (fun u t H1 locs ht hvm hw hB hz1 hk1 hS => ?_)
  obtain ⟨ad, ca, g, e0, hg, hP1, hK1, hD1⟩ := hB
  subst e0
  rw [ht] at hP1
  have hK1 := va_K.moved hvm.symm hK1
  obtain ⟨hP, hD⟩ := va_join (wr := []) (w1 := WT ad ca (TS0 g)) hP hD [0] [] rfl rfl (by decide) (by decide) hk1 hFc hP1 hD1
  have hK : va_K (dC, dI) vwCl [((ca 4), .long), ((ca 5), .long), ((ca 6), .long), ((ca 7), .int), ((ca 8), .long), ((ca 9), .long)] s := (hK.sub (tys' := []) [] rfl).app hK1
  generalize H1 = H at hP hS ⊢
  have hP : va_P (dC, dI) vwCl (WT ad ca (TS0 g)) H := hP
  have hD : va_D (fun q : Nat => s.heap.size ≤ q) (WT ad ca (TS0 g)) := hD
  refine W.widen (k := 10) (n := 90) (by decide) (by decide) ?_
  refine W.eq (g2 := F0 m 7 ls [.ref (ad 0)]) rfl ?_
  refine lv_astore_n (lv' := [(1, .ref (ad 0)), (0, .ref b)]) hx hb dL_law_7 rfl hl (by decide) rfl (fun ls hl => ?_)
  refine va_new (ci := 3) (fs := [.null, .null, .long 0, .long 0, .long 0, .int 0, .int 0, .int 0, .null, .null, .null, .null, .null, .int 0, .int 0, .int 0, .int 0]) (C := RX7) (T := TX7) (N := 17) hx hb hts inlX7 tyX7 tyX7_ok hown (hts (.classLink RL 10 RX7) (by decide +kernel)) (hts (.instantiable RX7 17) (by decide +kernel)) (hts (.initialized RX7) (by decide +kernel)) hK hP hD hS hA rfl (fun j hj => by rcases (show j = 0 ∨ j = 1 ∨ j = 2 ∨ j = 3 ∨ j = 4 ∨ j = 5 ∨ j = 6 ∨ j = 7 ∨ j = 8 ∨ j = 9 ∨ j = 10 ∨ j = 11 ∨ j = 12 ∨ j = 13 ∨ j = 14 ∨ j = 15 ∨ j = 16 by omega) with rfl | rfl | rfl | rfl | rfl | rfl | rfl | rfl | rfl | rfl | rfl | rfl | rfl | rfl | rfl | rfl | rfl <;> rfl) (Nat.le_of_ble_eq_true rfl) (Nat.le_of_ble_eq_true rfl) dL_law_8 (fun q1 H hP hD hS => ?_)
  have hP : va_P (dC, dI) vwCl (WT ad ca (TS0 g) ++ [(q1, .inr (3, [.null, .null, .long 0, .long 0, .long 0, .int 0, .int 0, .int 0, .null, .null, .null, .null, .null, .int 0, .int 0, .int 0, .int 0]))]) H := hP
  have hD : va_D (fun q : Nat => s.heap.size ≤ q) (WT ad ca (TS0 g) ++ [(q1, .inr (3, [.null, .null, .long 0, .long 0, .long 0, .int 0, .int 0, .int 0, .null, .null, .null, .null, .null, .int 0, .int 0, .int 0, .int 0]))]) := hD
  refine W.widen (k := 11) (n := 107) (by decide) (by decide) ?_
  refine lv_dup hx hb dL_law_11 rfl ?_
  have hPc := hP.sub (ws' := [(q1, .inr (3, [.null, .null, .long 0, .long 0, .long 0, .int 0, .int 0, .int 0, .null, .null, .null, .null, .null, .int 0, .int 0, .int 0, .int 0]))]) [10] rfl
  have hDc := hD.sub (ws' := [(q1, .inr (3, [.null, .null, .long 0, .long 0, .long 0, .int 0, .int 0, .int 0, .null, .null, .null, .null, .null, .int 0, .int 0, .int 0, .int 0]))]) [10] (by decide) rfl
  have hKc := hK.sub (tys' := []) [] rfl
  have hFc := va_free (wc := [(q1, .inr (3, [.null, .null, .long 0, .long 0, .long 0, .int 0, .int 0, .int 0, .null, .null, .null, .null, .null, .int 0, .int 0, .int 0, .int 0]))]) hD hS hA [10] rfl
  refine va_callv (va_runI (As := []) (rest := [.ref q1]) ⟨hx, hb, hml, hown, hts⟩ (ct_X7_init l dC dI q1 H.size) (cwI 0 hts gL_law_X7_init rfl rfl rfl (hts (.initialized RX7) (by decide +kernel)) (hts (.methodLink RL 12 yX7_init) (by decide +kernel)) (hts (.instanceMethod yX7_init) (by decide +kernel)) rfl (by decide +kernel) ⟨Nat.le_of_ble_eq_true rfl, Nat.le_of_ble_eq_true rfl⟩) ⟨fun a U g mk q => by obtain ⟨q0, q1, qP, qK, qD, qN⟩ := q; exact ⟨q0, q1, qP, va_K.moved (u := U) (U := U.calling g mk a) (Vm.Alike.refl U.vm) qK, qD, NW.same (u := U) (U := U.calling g mk a) rfl qN⟩, fun U hU hW => ⟨rfl, by rw [hU], by rw [hU]; exact hPc, va_K.moved hW.alike hKc, hDc.weaken (fun _ _ _ _ => trivial), NW.warm hW hNW⟩⟩ rfl rfl hl.1 rfl (lv_room (Nat.le_of_ble_eq_true rfl)) dL_law_12 ⟨Nat.le_of_ble_eq_true rfl, Nat.le_of_ble_eq_true rfl⟩) hS (fun q _ h => hFc q h) hFc (fun u t H1 locs ht hvm hw hB hz1 hk1 hS => ?_)
  obtain ⟨bd, cb, e0, hP1, hK1, hD1⟩ := hB
  subst e0
  rw [ht] at hP1
  have hK1 := va_K.moved hvm.symm hK1
  obtain ⟨hP, hD⟩ := va_join (wr := WT ad ca (TS0 g)) (w1 := WM bd cb MS0) hP hD [10] [0, 1, 2, 3, 4, 5, 6, 7, 8, 9] rfl rfl (by decide) (by decide) hk1 hFc hP1 hD1
  have hK : va_K (dC, dI) vwCl ([((ca 4), .long), ((ca 5), .long), ((ca 6), .long), ((ca 7), .int), ((ca 8), .long), ((ca 9), .long)] ++ [((cb 1), .long), ((cb 2), .int), ((cb 3), .long), ((cb 4), .boolean), ((cb 5), .int), ((cb 6), .long), ((cb 7), .int)]) s := hK.app hK1
  generalize H1 = H at hP hS ⊢
  refine W.widen (k := 18) (n := 182) (by decide) (by decide) ?_
  refine W.eq (g2 := F0 m 15 ls [.ref (bd 0)]) rfl ?_
  refine lv_astore_n (lv' := [(2, .ref (bd 0)), (1, .ref (ad 0)), (0, .ref b)]) hx hb dL_law_15 rfl hl (by decide) rfl (fun ls hl => ?_)
  refine lv_iconst (v := (0 : Int32)) hx hb dL_law_16 (by decide) ?_
  refine lv_istore_n (lv' := [(3, .int 0), (2, .ref (bd 0)), (1, .ref (ad 0)), (0, .ref b)]) hx hb dL_law_17 rfl hl (by decide) rfl (fun ls hl => ?_)
  exact law_loop l hL C0 hNW hK (L + 1) 0 (Nat.zero_le L) (by omega) (TS0 g) MS0 H locs (RR0 hg) hP hD hS ls (lv_sub hl [3, 2, 1, 0] rfl)
end
