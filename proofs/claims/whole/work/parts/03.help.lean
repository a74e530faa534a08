/-! HELP: calls and returns in three kinds: pure (heap as it was), reading, and changing a known world -/
/-- the links between the table and the classes inside it -/
def NW (U : State) : Prop := va_Nw (.fieldLinkNest RX6 76 "SnapTable$Axis" "at" "[J" "SnapTable") U ∧ va_Nw (.fieldLinkNest RX6 68 "SnapTable$Axis" "step" "J" "SnapTable") U ∧ va_Nw (.fieldLinkNest RX6 128 "SnapTable$Trail" "points" "[I" "SnapTable") U ∧ va_Nw (.fieldLinkNest RX6 132 "SnapTable$Trail" "widths" "[J" "SnapTable") U ∧ va_Nw (.fieldLinkNest RX6 134 "SnapTable$Trail" "heights" "[J" "SnapTable") U ∧ va_Nw (.fieldLinkNest RX6 121 "SnapTable$Trail" "size" "I" "SnapTable") U ∧ va_Nw (.methodLinkNest RX6 23 yX4_init "SnapTable") U
theorem NW.same {u U : State} (h : u.vm = U.vm) (n : NW u) : NW U := ⟨va_Nw.same rfl h n.1, va_Nw.same rfl h n.2.1, va_Nw.same rfl h n.2.2.1, va_Nw.same rfl h n.2.2.2.1, va_Nw.same rfl h n.2.2.2.2.1, va_Nw.same rfl h n.2.2.2.2.2.1, va_Nw.same rfl h n.2.2.2.2.2.2⟩
theorem NW.warm {s U : State} (h : s.WarmedH U.vm) (n : NW s) : NW U := ⟨va_Nw.warmF h n.1, va_Nw.warmF h n.2.1, va_Nw.warmF h n.2.2.1, va_Nw.warmF h n.2.2.2.1, va_Nw.warmF h n.2.2.2.2.1, va_Nw.warmF h n.2.2.2.2.2.1, va_Nw.warmM h n.2.2.2.2.2.2⟩
/-- what a reading method takes: its arguments, its cells -/
def pR (D : va_G) (cl : List vw_C) (tys : List (ClassId × FieldType)) (wc : va_W) (av : List Value) : Array Value → State → Prop := va_Pc av (fun U => va_P D cl wc U.heap ∧ va_K D cl tys U ∧ NW U)
/-- what a changing method takes -/
def pM (D : va_G) (cl : List vw_C) (tys : List (ClassId × FieldType)) (wc : va_W) (sz : Nat) (av : List Value) : Array Value → State → Prop := va_Pc av (fun U => U.heap.size = sz ∧ va_P D cl wc U.heap ∧ va_K D cl tys U ∧ va_D (fun _ => True) wc ∧ NW U)
/-- what a changing method gives: its answer, its cells as they are then, nothing else changed -/
def qM (D : va_G) (cl : List vw_C) (wc : va_W) (sz : Nat) (ro : Option Value) (w1 : va_W) : Array Value → State → Outcome → State → Prop := fun _ st oc t => oc = .returned ro ∧ va_P D cl w1 t.heap ∧ va_D (va_A wc sz) w1 ∧ va_F (va_A wc sz) st t
theorem hw_part {D : va_G} {cl : List vw_C} {w0 wc : va_W} {H : Heap} (hP : va_P D cl w0 H) (isC : List Nat) (hC : isC.map (fun i => w0[i]?) = wc.map some) : va_P D cl wc H := by
  intro k q hk
  have h1 : (isC.map (fun i => w0[i]?))[k]? = some (some q) := by rw [hC, List.getElem?_map, hk]; rfl
  rw [List.getElem?_map] at h1
  cases hi : isC[k]? with
  | none => rw [hi] at h1; cases h1
  | some i => rw [hi] at h1; exact hP i q (Option.some.inj h1)
section HelpA
variable {p : Program} {l : Launch} {e : Env} {R : Room} {s : State} {m : MethodId} {args : Array Value} {below : List Frame} {meth : Method} {c : Code} {H : Heap} {locs : List Loc} {cells slots : Nat} {Q : State → Prop}
variable {y : MethodName} {bytes cc : ByteArray} {maxL nL n index pc : Nat} {ret : Option FieldType} {ws : List Cond} {rm : Room} {Ts : List Cond} {own C : String} {b : Nat} {As rest st0 : List Value} {r : Value} {ls : Array Slot}
theorem hc_S (S : CallFix p m c cc nL s args Ts own) (hM : Met l y ws rm (fun v _ => v = As.toArray) (k2_QcV r) 0 0 (fun _ => False)) (cw : CallB R s args own index y bytes maxL ret ws rm 0 0 n ∧ (Cond.static y).before args s = true) (hn : As.length = n) (hsize : ls.size = nL) (hst : st0 = As.reverse ++ rest) (hW : (rest.map fun v => v.category).sum ≤ 8) (hdg : decode cc pc = .ok (.invokestatic index, 3)) (hf : cells ≤ R.cells ∧ slots ≤ R.slots)
    (k : W p l e R s m args below meth c H locs cells slots Q (F0 m (pc + 3) ls (r :: rest))) : W p l e R s m args below meth c H locs cells slots Q (F0 m pc ls st0) :=
  W.callV (W.runS S hM cw preEq rfl hn hsize hst (lv_room hW) hdg hf) k
theorem hc_V {D : va_G} {cl : List vw_C} {tys : List (ClassId × FieldType)} {wc : va_W} {ci N : Nat} {T : u_T} {fs : List Value} (S : CallFix p m c cc nL s args Ts own) (hM : Met l y ws rm (pR D cl tys wc (.ref b :: As)) (k2_QcV r) 0 0 (fun _ => False)) (cw : CallW R s args own C index y bytes maxL ret ws rm 0 0 n) (hP : va_P D cl wc H) (hK : va_K D cl tys s) (hNW : NW s) (hci : cl[ci]? = some (C, T, N)) (h0 : wc[0]? = some (b, .inr (ci, fs))) (hn : As.length = n) (hsize : ls.size = nL) (hst : st0 = As.reverse ++ .ref b :: rest) (hW : (rest.map fun v => v.category).sum ≤ 8) (hdg : decode cc pc = .ok (.invokevirtual index, 3)) (hf : cells ≤ R.cells ∧ slots ≤ R.slots)
    (k : W p l e R s m args below meth c H locs cells slots Q (F0 m (pc + 3) ls (r :: rest))) : W p l e R s m args below meth c H locs cells slots Q (F0 m pc ls st0) :=
  W.callV (W.runV S hM cw ⟨fun a U g mk q => by obtain ⟨q0, qP, qK, qN⟩ := q; exact ⟨q0, qP, va_K.moved (u := U) (U := U.calling g mk a) (Vm.Alike.refl U.vm) qK, NW.same (u := U) (U := U.calling g mk a) rfl qN⟩, va_recv hK hP hci h0, fun U hU hW => ⟨rfl, by rw [hU]; exact hP, va_K.moved hW.alike hK, NW.warm hW hNW⟩⟩ rfl hn hsize hst (lv_room hW) hdg hf) k
theorem hc_M {D : va_G} {cl : List vw_C} {tys : List (ClassId × FieldType)} {w0 wc wr w1 : va_W} {ci N : Nat} {T : u_T} {fs : List Value} {A0 : Nat → Prop} {H0 : Heap} {ro : Option Value} (S : CallFix p m c cc nL s args Ts own) (hM : Met l y ws rm (pM D cl tys wc H.size (.ref b :: As)) (qM D cl wc H.size ro w1) 0 0 (va_A wc H.size)) (cw : CallW R s args own C index y bytes maxL ret ws rm 0 0 n) (hP : va_P D cl w0 H) (hD : va_D A0 w0) (hK : va_K D cl tys s) (hNW : NW s) (hS : va_S A0 H0 H locs) (hA : ∀ q, H0.size ≤ q → A0 q) (isC isR : List Nat) (hC : isC.map (fun i => w0[i]?) = wc.map some) (hR : isR.map (fun i => w0[i]?) = wr.map some) (hn1 : va_nd isC = true) (hn2 : va_nd isR = true) (hdis : ∀ i ∈ isR, i ∉ isC) (hci : cl[ci]? = some (C, T, N)) (h0 : wc[0]? = some (b, .inr (ci, fs))) (hn : As.length = n) (hsize : ls.size = nL) (hst : st0 = As.reverse ++ .ref b :: rest) (hW : (rest.map fun v => v.category).sum ≤ 8) (hdg : decode cc pc = .ok (.invokevirtual index, 3)) (hf : cells ≤ R.cells ∧ slots ≤ R.slots)
    (k : ∀ (H1 : Heap) (locs1 : List Loc), va_P D cl (wr ++ w1) H1 → va_D A0 (wr ++ w1) → va_S A0 H0 H1 locs1 → W p l e R s m args below meth c H1 locs1 cells slots Q (F0 m (pc + 3) ls (ro.toList ++ rest))) : W p l e R s m args below meth c H locs cells slots Q (F0 m pc ls st0) := by
  have hPc : va_P D cl wc H := hw_part hP isC hC
  have hDc := hD.sub isC hn1 hC
  have hF := va_free (wc := wc) hD hS hA isC hC
  have hr := va_runV (As := As) (rest := rest) (g := F0 m pc ls st0) (H := H) (cells := cells) (slots := slots) (locs := locs) (e := e) (below := below) (meth := meth) S hM cw ⟨fun a U g mk q => by obtain ⟨q0, q1, qP, qK, qD, qN⟩ := q; exact ⟨q0, q1, qP, va_K.moved (u := U) (U := U.calling g mk a) (Vm.Alike.refl U.vm) qK, qD, NW.same (u := U) (U := U.calling g mk a) rfl qN⟩, va_recv hK hPc hci h0, fun U hU hW => ⟨rfl, by rw [hU], by rw [hU]; exact hPc, va_K.moved hW.alike hK, hDc.weaken (fun _ _ _ _ => trivial), NW.warm hW hNW⟩⟩ rfl hn hsize hst (lv_room hW) hdg hf
  intro T hT X
  obtain ⟨v, st₀, t, T', L, hh0, X', hL, e1, e2, ⟨hv, hP1, hD1, hz, hk⟩, st⟩ := hr T hT X
  cases hv
  rw [hh0] at hz hk
  obtain ⟨hP2, hD2⟩ := va_join (wr := wr) (w1 := w1) hP hD isC isR hC hR hn2 hdis hk hF hP1 hD1
  obtain ⟨t2, a1, b1⟩ := k t.heap (locs ++ L) hP2 hD2 ⟨Nat.le_trans hS.1 hz, fun q h1 h2 => by rw [hk q (Nat.lt_of_lt_of_le h1 hS.1) (fun z => h2 (hF q z))]; exact hS.2.1 q h1 h2, fun q hq => by
      rcases List.mem_append.mp hq with h | h
      · exact hS.2.2 q h
      · exact hF _ (hL q h)⟩ T' e1 X'
  exact ⟨t2, st t2 a1, b1⟩
/-- the end of a changing method -/
theorem rM_i {D : va_G} {cl : List vw_C} {w0 w w1 : va_W} {v : Int32} {r0 : Value} (hx : p.tables.exec = Jvm.exec) (hb : c.code = cc) (hr : meth.sig.returnType = some .int) (hlocks : meth.locks = false) (hP : va_P D cl w H) (hD : va_D (va_A w0 s.heap.size) w) (hS : va_S (va_A w0 s.heap.size) s.heap H locs) (e1 : Value.int v = r0) (e2 : w = w1) (hdg : decode cc pc = .ok (.ireturn, 1)) : W p l e R s m args below meth c H locs cells slots (MQ below (qM D cl w0 s.heap.size (some r0) w1) args s cells slots (va_A w0 s.heap.size)) (F0 m pc ls [.int v]) := by
  subst e1; subst e2
  exact W.iret hx hb hr (fun t ht _ => ⟨rfl, by rw [ht]; exact hP, hD, hS.F ht⟩) hS.2.2 hdg
theorem rM_v {D : va_G} {cl : List vw_C} {w0 w w1 : va_W} (hx : p.tables.exec = Jvm.exec) (hb : c.code = cc) (hr : meth.sig.returnType = none) (hlocks : meth.locks = false) (hP : va_P D cl w H) (hD : va_D (va_A w0 s.heap.size) w) (hS : va_S (va_A w0 s.heap.size) s.heap H locs) (e2 : w = w1) (hdg : decode cc pc = .ok (.return_, 1)) : W p l e R s m args below meth c H locs cells slots (MQ below (qM D cl w0 s.heap.size none w1) args s cells slots (va_A w0 s.heap.size)) (F0 m pc ls []) := by
  subst e2
  exact W.vret hx hb hr (fun t ht _ => ⟨rfl, by rw [ht]; exact hP, hD, hS.F ht⟩) hS.2.2 hdg
end HelpA
/-! numbers that are none: the kit's word and the laws' word -/
theorem nn64 {r : UInt64} (h : FP.dIsNaN r = false) : vf_n64 r := by
  have h1 : ¬ (9218868437227405312 < r.toNat % 2 ^ 63) := fun q => by
    have := (Jvm.FP.Core.isNaN_bits r).mpr q
    rw [show Jvm.FP.Core.dIsNaN r = FP.dIsNaN r from rfl, h] at this
    cases this
  have h2 := Jvm.FP.Core.mask_toNat r
  unfold vf_n64
  rw [UInt64.le_iff_toNat_le, h2]
  exact Nat.le_of_not_lt h1
theorem nn32 {r : UInt32} (h : FP.fIsNaN r = false) : vf_n32 r := by
  have h1 : ¬ (2139095040 < r.toNat % 2 ^ 31) := fun q => by
    have := (Jvm.FP.Core.isNaN_bits32 r).mpr q
    rw [show Jvm.FP.Core.fIsNaN r = FP.fIsNaN r from rfl, h] at this
    cases this
  have h2 := Jvm.FP.Core.mask_toNat32 r
  unfold vf_n32
  rw [UInt32.le_iff_toNat_le, h2]
  exact Nat.le_of_not_lt h1
/-! counted loops: i goes up to b, or down to -1; n is what is left of the count -/
def LU (b : Int) (n : Nat) (i : Int32) : Prop := 0 ≤ i.toInt ∧ i.toInt ≤ b ∧ i.toInt + n = b + 1
def LD (b : Int) (n : Nat) (i : Int32) : Prop := -1 ≤ i.toInt ∧ i.toInt ≤ b ∧ i.toInt + 2 = n
theorem i32_up {i : Int32} (h0 : 0 ≤ i.toInt) (h : i.toInt < 2147483647) : (i + 1).toInt = i.toInt + 1 := by
  rw [Int32.toInt_add]
  have : (1 : Int32).toInt = 1 := by decide
  rw [this, Int.bmod_eq_of_le (by omega) (by omega)]
theorem i32_down {i : Int32} (h0 : -2147483648 < i.toInt) : (i + (-1)).toInt = i.toInt - 1 := by
  rw [Int32.toInt_add]
  have h1 : (-1 : Int32).toInt = -1 := by decide
  have h2 := i.toInt_lt
  have h3 := i.le_toInt
  rw [h1, Int.bmod_eq_of_le (by omega) (by omega)]
  omega
theorem LU.z {b : Int} {i : Int32} (h : LU b 0 i) : False := by unfold LU at h; omega
theorem LD.z {b : Int} {i : Int32} (h : LD b 0 i) : False := by unfold LD at h; omega
theorem LU.up {b : Int} {n : Nat} {i B : Int32} (hB : B.toInt = b) (h : LU b (n + 1) i) (hc : ¬ B ≤ i) : LU b n (i + 1) := by
  have hb := B.toInt_lt
  have hc' : i.toInt < b := by rw [Int32.le_iff_toInt_le] at hc; omega
  unfold LU at h ⊢
  rw [i32_up h.1 (by omega)]
  omega
theorem LU.vin {b : Int} {n N : Nat} {i B : Int32} (h : LU b n i) (hB : B.toInt = b) (hc : ¬ B ≤ i) (hN : b ≤ N) : vp_in i N := by
  rw [vp_in_iff]
  rw [Int32.le_iff_toInt_le] at hc
  unfold LU at h
  omega
theorem LU.vin1 {b : Int} {n N : Nat} {i B : Int32} (h : LU b n i) (hB : B.toInt = b) (hc : ¬ B ≤ i) (hN : b < N) : vp_in (i + 1) N := by
  have hb := B.toInt_lt
  rw [vp_in_iff]
  rw [Int32.le_iff_toInt_le] at hc
  unfold LU at h
  rw [i32_up h.1 (by omega)]
  omega
theorem LD.down {b : Int} {n : Nat} {i : Int32} (h : LD b (n + 1) i) (hc : ¬ i < 0) : LD b n (i + (-1)) := by
  rw [Int32.lt_iff_toInt_lt] at hc
  have : (0 : Int32).toInt = 0 := by decide
  unfold LD at h ⊢
  rw [i32_down (by omega)]
  omega
