/-! QUOTIENTS AND PRODUCTS of floats -/
theorem fneg_un (x : UInt32) : (FP.fneg x).toNat = if x.toNat < 2 ^ 31 then x.toNat + 2 ^ 31 else x.toNat - 2 ^ 31 := by
  have ha := x.toNat_lt
  have hx : (FP.fneg x).toNat = x.toNat ^^^ 2 ^ 31 := by
    unfold FP.fneg; rw [UInt32.toNat_xor]; rfl
  have := Jvm.FP.xor_top (a := x.toNat) (k := 31) (by omega)
  rw [hx]
  split
  · exact this.1 (by omega)
  · exact this.2 (by omega)
theorem size4_un {V : Int32} : (nI (sz4 V)).toUInt32.toNat = sz4 V := nI_tu (by have := sz4_lt V; omega)
theorem sz4_nI {m : Nat} (h : m < 2 ^ 31) : sz4 (nI m) = m := by unfold sz4; rw [nI_tu (by omega)]; omega
theorem un4_pos {V : Int32} (hn : ¬ ng4 V = true) : V.toUInt32 = (nI (sz4 V)).toUInt32 := by
  apply UInt32.toNat_inj.mp
  rw [size4_un]
  have : V.toUInt32.toNat < 2 ^ 31 := Decidable.byContradiction (fun q => hn (ng4_t.mpr q))
  unfold sz4; omega
theorem un4_neg {V : Int32} (hn : ng4 V = true) : V.toUInt32 = FP.fneg (nI (sz4 V)).toUInt32 := by
  apply UInt32.toNat_inj.mp
  have h1 := un4_lt V
  have := ng4_t.mp hn
  have h2 := sz4_lt V
  rw [fneg_un, size4_un, if_pos (by omega)]
  unfold sz4; omega
theorem vos_wd {V : Int32} (h : sz4 V ≤ 2139095040) : FP.d2f (mX1_valueOfSize (mX3_widened V)) = (nI (sz4 V)).toUInt32 := by
  have hl := sz4_lt V
  have hz := sz4_nI hl
  have hw : mX3_widened (nI (sz4 V)) = lN (Wd (sz4 V)) := by
    rw [wide_un (by rw [hz]; exact h), hz, if_pos (by rw [size4_un]; exact hl), Nat.zero_add]
  rw [vos_all (wd_nn h), sz_wide h, ← hw, ← f2d_wide (by rw [hz]; exact h)]
  exact d2f_f2d' (nan4_of (by rw [hz]; exact h))
theorem sgG {G : UInt32 → UInt32} (h1 : ∀ x : UInt32, x.toNat ≤ 2139095040 → (G x).toNat ≤ 2139095040) (h2 : ∀ x : UInt32, x.toNat ≤ 2139095040 → G (FP.fneg x) = FP.fneg (G x)) {V y : Int32} (hV : sz4 V ≤ 2139095040) (hy : sz4 y ≤ 2139095040) (hn : ng4 V = ng4 y) : mX1_withSignOf (mX1_ofSize (FP.f2d (G (FP.d2f (mX1_valueOfSize (mX3_widened V)))))) (mX3_widened y) = mX3_widened (G V.toUInt32).toInt32 := by
  have hx : (nI (sz4 V)).toUInt32.toNat ≤ 2139095040 := by rw [size4_un]; exact hV
  have hq := h1 _ hx
  rw [vos_wd hV]
  generalize hg : G (nI (sz4 V)).toUInt32 = g at *
  have hS : sz4 g.toInt32 = g.toNat := Nat.mod_eq_of_lt (by rw [un4_toInt32]; omega)
  have hS2 : sz4 g.toInt32 ≤ 2139095040 := by rw [hS]; exact hq
  have hW := Wd_63 hq
  have hf : FP.f2d g = (mX3_widened g.toInt32).toUInt64 := f2d_wide hS2
  have hwg : mX3_widened g.toInt32 = lN (Wd g.toNat) := by
    rw [wide_un hS2, hS, if_pos (by rw [un4_toInt32]; omega), Nat.zero_add]
  have hfn : (FP.f2d g).toNat = Wd g.toNat := by rw [hf, hwg, lN_tu (by omega)]
  rw [ofs_all (by rw [hfn]; exact hW), tu_lN, hfn, wsg (by omega), ng_wide hy, ← hn]
  unfold sgb
  by_cases h : ng4 V = true
  · rw [if_pos h, un4_neg h, h2 _ hx, hg]
    have hgn : (FP.fneg g).toNat = g.toNat + 2 ^ 31 := by rw [fneg_un, if_pos (by omega)]
    have hs3 : sz4 (FP.fneg g).toInt32 = g.toNat := by unfold sz4; rw [un4_toInt32, hgn]; omega
    rw [wide_un (by rw [hs3]; exact hq), hs3, if_neg (by rw [un4_toInt32, hgn]; omega)]
  · rw [if_neg h, un4_pos h, hg, hwg, Nat.zero_add]
theorem le_inf4 {d : UInt32} {A B : Nat} {e : Int} (h : FP.Core.val32 d = FP.Core.roundRatio FP.Core.b32 false A B e) : d.toNat ≤ 2139095040 := by
  have hn : FP.Core.val32 d ≠ .nan := by rw [h]; exact FP.Core.roundRatio_ne_nan _ _ _ _ _
  have hs := FP.Core.sgn_bits32 hn
  rw [h, FP.Core.sgn_roundRatio] at hs
  have h1 := of_decide_eq_false hs.symm
  rw [FP.Core.ne_nan32] at hn
  omega
theorem inf_of4 {d : UInt32} (h : FP.Core.val32 d = .inf false) : d.toNat ≤ 2139095040 := by
  have hn : FP.Core.val32 d ≠ .nan := by rw [h]; exact FP.Core.Datum.noConfusion
  have hs := FP.Core.sgn_bits32 hn
  rw [h, show FP.Core.sgn (.inf false) = false from rfl] at hs
  have h1 := of_decide_eq_false hs.symm
  rw [FP.Core.ne_nan32] at hn
  omega
theorem fin4 {x : UInt32} (h : x.toNat < 2139095040) : ∃ c q, FP.Core.val32 x = .fin false c q := by
  have h1 : FP.Core.FFin x := by rw [FP.Core.fin_bits32]; omega
  obtain ⟨s, c, q, e⟩ := h1
  have h2 := FP.Core.sgn_bits32 (a := x) (by rw [FP.Core.ne_nan32]; omega)
  rw [e, show FP.Core.sgn (.fin s c q) = s from rfl] at h2
  have h3 : s = false := by rw [h2]; exact decide_eq_false (by omega)
  subst h3
  exact ⟨c, q, e⟩
theorem fin_or_inf4 {x : UInt32} (h : x.toNat ≤ 2139095040) : (∃ c q, FP.Core.val32 x = .fin false c q) ∨ FP.Core.val32 x = .inf false := by
  rcases Nat.eq_or_lt_of_le h with e | hlt
  · right
    have : x = 2139095040 := UInt32.toNat_inj.mp (by rw [e]; rfl)
    subst this
    decide +kernel
  · exact Or.inl (fin4 hlt)
def StepF (g : Int32) : Prop := g.toUInt32.toNat < 2139095040 ∧ g.toUInt32.toNat ≠ 0
theorem nz4 {s : UInt32} (hs : s.toNat < 2139095040) (h0 : s.toNat ≠ 0) {c : Nat} {q : Int} (e : FP.Core.val32 s = .fin false c q) : c ≠ 0 := by
  intro hc
  have : FP.Core.FZero s := ⟨false, q, by rw [e, hc]⟩
  rw [FP.Core.zero_bits232] at this
  omega
theorem fdiv_le {x s : UInt32} (hs : s.toNat < 2139095040) (h0 : s.toNat ≠ 0) (hx : x.toNat ≤ 2139095040) : (FP.fdiv x s).toNat ≤ 2139095040 := by
  obtain ⟨d, r, e2⟩ := fin4 hs
  have hd := nz4 hs h0 e2
  rcases fin_or_inf4 hx with ⟨c, q, e1⟩ | e1
  · refine le_inf4 (d := FP.Core.fdiv x s) (A := c) (B := d) (e := q - r) ?_
    rw [FP.Core.val32_fdiv, e1, e2]
    show (if d = 0 then _ else _) = _
    rw [if_neg hd]; rfl
  · refine inf_of4 (d := FP.Core.fdiv x s) ?_
    rw [FP.Core.val32_fdiv, e1, e2]
    rfl
theorem fmul_le {x s : UInt32} (hs : s.toNat < 2139095040) (h0 : s.toNat ≠ 0) (hx : x.toNat ≤ 2139095040) : (FP.fmul x s).toNat ≤ 2139095040 := by
  obtain ⟨d, r, e2⟩ := fin4 hs
  have hd := nz4 hs h0 e2
  rcases fin_or_inf4 hx with ⟨c, q, e1⟩ | e1
  · refine le_inf4 (d := FP.Core.fmul x s) (A := c * d) (B := 1) (e := q + r) ?_
    rw [FP.Core.val32_fmul, e1, e2]
    rfl
  · refine inf_of4 (d := FP.Core.fmul x s) ?_
    rw [FP.Core.val32_fmul, e1, e2]
    show FP.Core.round _ (if d = 0 then _ else _) = _
    rw [if_neg hd]
    rfl
theorem nan4_le {d : UInt32} (h : d.toNat ≤ 2139095040) : FP.fIsNaN d = false := (isnan4_iff d).mpr (by omega)
theorem fdiv_neg {x s : UInt32} (hs : s.toNat < 2139095040) (h0 : s.toNat ≠ 0) (hx : x.toNat ≤ 2139095040) : FP.fdiv (FP.fneg x) s = FP.fneg (FP.fdiv x s) := by
  rw [FP.fneg_core (nan4_le hx), FP.fneg_core (nan4_le (fdiv_le hs h0 hx))]
  exact FP.Core.fdiv_fneg x s
theorem fmul_neg {x s : UInt32} (hs : s.toNat < 2139095040) (h0 : s.toNat ≠ 0) (hx : x.toNat ≤ 2139095040) : FP.fmul (FP.fneg x) s = FP.fneg (FP.fmul x s) := by
  rw [FP.fneg_core (nan4_le hx), FP.fneg_core (nan4_le (fmul_le hs h0 hx))]
  exact FP.Core.fmul_fneg x s
theorem StepF.nn {g : Int32} (h : StepF g) : sz4 g ≤ 2139095040 := by
  have := h.1
  unfold sz4; omega
theorem StepF.vos {g : Int32} (h : StepF g) : FP.d2f (mX1_valueOfSize (mX3_widened g)) = g.toUInt32 := by
  have h1 := h.1
  rw [vos_wd h.nn]
  apply UInt32.toNat_inj.mp
  rw [size4_un]
  unfold sz4; omega
theorem quo_h {y g : Int32} (hy : sz4 y ≤ 2139095040) (hs : StepF g) : mX1_withSignOf (mX1_ofSize (FP.f2d (FP.fdiv (FP.d2f (mX1_valueOfSize (mX3_widened y))) (FP.d2f (mX1_valueOfSize (mX3_widened g)))))) (mX3_widened y) = mX3_widened (FP.fdiv y.toUInt32 g.toUInt32).toInt32 := by
  rw [hs.vos]
  exact sgG (G := fun x => FP.fdiv x g.toUInt32) (fun x hx => fdiv_le hs.1 hs.2 hx) (fun x hx => fdiv_neg hs.1 hs.2 hx) hy hy rfl
theorem mul_h {V y g : Int32} (hV : sz4 V ≤ 2139095040) (hy : sz4 y ≤ 2139095040) (hn : ng4 V = ng4 y) (hs : StepF g) : mX1_withSignOf (mX1_ofSize (FP.f2d (FP.fmul (FP.d2f (mX1_valueOfSize (mX3_widened V))) (FP.d2f (mX1_valueOfSize (mX3_widened g)))))) (mX3_widened y) = mX3_widened (FP.fmul V.toUInt32 g.toUInt32).toInt32 := by
  rw [hs.vos]
  exact sgG (G := fun x => FP.fmul x g.toUInt32) (fun x hx => fmul_le hs.1 hs.2 hx) (fun x hx => fmul_neg hs.1 hs.2 hx) hV hy hn
theorem signG {G : UInt32 → UInt32} (h1 : ∀ x : UInt32, x.toNat ≤ 2139095040 → (G x).toNat ≤ 2139095040) (h2 : ∀ x : UInt32, x.toNat ≤ 2139095040 → G (FP.fneg x) = FP.fneg (G x)) {V : Int32} (hV : sz4 V ≤ 2139095040) : sz4 (G V.toUInt32).toInt32 ≤ 2139095040 ∧ ng4 (G V.toUInt32).toInt32 = ng4 V := by
  have hx : (nI (sz4 V)).toUInt32.toNat ≤ 2139095040 := by rw [size4_un]; exact hV
  have hq := h1 _ hx
  by_cases h : ng4 V = true
  · rw [un4_neg h, h2 _ hx, h]
    generalize G (nI (sz4 V)).toUInt32 = g at *
    unfold sz4 ng4
    rw [un4_toInt32, fneg_un, if_pos (by omega)]
    exact ⟨by omega, decide_eq_true (by omega)⟩
  · rw [un4_pos h, Bool.eq_false_iff.mpr h]
    generalize G (nI (sz4 V)).toUInt32 = g at *
    unfold sz4 ng4
    rw [un4_toInt32]
    exact ⟨by omega, decide_eq_false (by omega)⟩
theorem quo4_nn {y g : Int32} (hy : sz4 y ≤ 2139095040) (hs : StepF g) : sz4 (FP.fdiv y.toUInt32 g.toUInt32).toInt32 ≤ 2139095040 ∧ ng4 (FP.fdiv y.toUInt32 g.toUInt32).toInt32 = ng4 y :=
  signG (G := fun x => FP.fdiv x g.toUInt32) (fun x hx => fdiv_le hs.1 hs.2 hx) (fun x hx => fdiv_neg hs.1 hs.2 hx) hy
theorem whole4_nn {y : Int32} {way : Nat} (hw : way ≤ 3) (h : sz4 y ≤ 2139095040) : sz4 (mX7_whole4 y (nI way)) ≤ 2139095040 ∧ ng4 (mX7_whole4 y (nI way)) = ng4 y := by
  rw [mwhole4 hw h]
  have hb : wN 23 127 (ng4 y) way (sz4 y) ≤ 2139095040 := by
    unfold wN
    split
    · exact h
    · split
      · split <;> omega
      · unfold wR
        have hp : 2 ^ (23 - (sz4 y / 2 ^ 23 - 127)) ≤ 2 ^ 23 := Nat.pow_le_pow_right (by decide) (by omega)
        split
        · exact h
        · split <;> omega
  obtain ⟨s1, s2⟩ := sgb4_sz (b := ng4 y) (x := wN 23 127 (ng4 y) way (sz4 y)) (by omega)
  exact ⟨by rw [s1]; exact hb, s2⟩
theorem steps_h {u : AS} {y g : Int32} {way : Nat} (hu : u.2.2.1 = mX3_widened g) (hw : way ≤ 3) (hy : sz4 y ≤ 2139095040) (hs : StepF g) : mX0_wholeSteps_h u (mX3_widened y) (nI way) = mX3_widened (mX7_whole4 (FP.fdiv y.toUInt32 g.toUInt32).toInt32 (nI way)) := by
  unfold mX0_wholeSteps_h
  rw [hu, quo_h hy hs]
  exact whole4_eq hw (quo4_nn hy hs).1
theorem snap_h {u : AS} {y g : Int32} {way : Nat} (hu : u.2.2.1 = mX3_widened g) (hw : way ≤ 3) (hy : sz4 y ≤ 2139095040) (hs : StepF g) : mX0_snapped_h u (mX3_widened y) (nI way) = mX3_widened (FP.fmul (mX7_whole4 (FP.fdiv y.toUInt32 g.toUInt32).toInt32 (nI way)).toUInt32 g.toUInt32).toInt32 := by
  unfold mX0_snapped_h
  rw [steps_h hu hw hy hs, hu]
  obtain ⟨q1, q2⟩ := quo4_nn hy hs
  obtain ⟨w1, w2⟩ := whole4_nn hw q1
  exact mul_h w1 hy (by rw [w2, q2]) hs
