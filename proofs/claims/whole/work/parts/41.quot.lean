/-! QUOTIENTS AND PRODUCTS by a step -/
theorem size_un {W : Int64} (h : sz W ≤ 9218868437227405312) : (lN (sz W)).toUInt64.toNat = sz W := lN_tu (by omega)
theorem un_pos {W : Int64} (h : sz W ≤ 9218868437227405312) (hn : ¬ ng W = true) : W.toUInt64 = (lN (sz W)).toUInt64 := by
  apply UInt64.toNat_inj.mp
  rw [size_un h]
  have : W.toUInt64.toNat < 2 ^ 63 := Decidable.byContradiction (fun q => hn (ng_t.mpr q))
  unfold sz; omega
theorem un_neg {W : Int64} (h : sz W ≤ 9218868437227405312) (hn : ng W = true) : W.toUInt64 = FP.dneg (lN (sz W)).toUInt64 := by
  apply UInt64.toNat_inj.mp
  have h1 := un_lt W
  have := ng_t.mp hn
  rw [dneg_un, size_un h, if_pos (by omega)]
  unfold sz; omega
theorem sgF {F : UInt64 → UInt64} (h1 : ∀ x : UInt64, x.toNat ≤ 9218868437227405312 → (F x).toNat ≤ 9218868437227405312) (h2 : ∀ x : UInt64, x.toNat ≤ 9218868437227405312 → F (FP.dneg x) = FP.dneg (F x)) {W a : Int64} (hW : sz W ≤ 9218868437227405312) (hn : ng W = ng a) : mX1_withSignOf (mX1_ofSize (F (lN (sz W)).toUInt64)) a = (F W.toUInt64).toInt64 := by
  have hx : (lN (sz W)).toUInt64.toNat ≤ 9218868437227405312 := by rw [size_un hW]; exact hW
  have hq := h1 _ hx
  rw [ofs_all hq, tu_lN, wsg (by omega), ← hn]
  unfold sgb
  by_cases h : ng W = true
  · rw [if_pos h, un_neg hW h, h2 _ hx, tu_lN, dneg_un, if_pos (by omega)]
    exact congrArg lN (by omega)
  · rw [if_neg h, un_pos hW h, tu_lN, Nat.zero_add]
theorem le_inf {d : UInt64} {s : Bool} {A B : Nat} {e : Int} (h : FP.Core.val64 d = FP.Core.roundRatio FP.Core.b64 false A B e) : d.toNat ≤ 9218868437227405312 := by
  have hn : FP.Core.val64 d ≠ .nan := by rw [h]; exact FP.Core.roundRatio_ne_nan _ _ _ _ _
  have hs := FP.Core.sgn_bits hn
  rw [h, FP.Core.sgn_roundRatio] at hs
  have h1 := of_decide_eq_false hs.symm
  rw [FP.Core.ne_nan] at hn
  omega
theorem fin_or_inf {x : UInt64} (h : x.toNat ≤ 9218868437227405312) : (∃ c q, FP.Core.val64 x = .fin false c q) ∨ FP.Core.val64 x = .inf false := by
  rcases Nat.eq_or_lt_of_le h with e | hlt
  · right
    have : x = 9218868437227405312 := UInt64.toNat_inj.mp (by rw [e]; rfl)
    subst this
    decide +kernel
  · exact Or.inl (Ps.fin hlt)
theorem ps_nz {s : UInt64} (hs : Ps s) (h0 : s.toNat ≠ 0) {c : Nat} {q : Int} (e : FP.Core.val64 s = .fin false c q) : c ≠ 0 := by
  intro hc
  have : FP.Core.DZero s := ⟨false, q, by rw [e, hc]⟩
  rw [FP.Core.zero_bits2] at this
  unfold Ps at hs
  omega
theorem inf_of {d : UInt64} (h : FP.Core.val64 d = .inf false) : d.toNat ≤ 9218868437227405312 := by
  have hn : FP.Core.val64 d ≠ .nan := by rw [h]; exact FP.Core.Datum.noConfusion
  have hs := FP.Core.sgn_bits hn
  rw [h, show FP.Core.sgn (.inf false) = false from rfl] at hs
  have h1 := of_decide_eq_false hs.symm
  rw [FP.Core.ne_nan] at hn
  omega
theorem div_le {x s : UInt64} (hs : Ps s) (h0 : s.toNat ≠ 0) (hx : x.toNat ≤ 9218868437227405312) : (FP.ddiv x s).toNat ≤ 9218868437227405312 := by
  obtain ⟨d, r, e2⟩ := hs.fin
  have hd := ps_nz hs h0 e2
  rcases fin_or_inf hx with ⟨c, q, e1⟩ | e1
  · refine le_inf (d := FP.Core.ddiv x s) (s := false) (A := c) (B := d) (e := q - r) ?_
    rw [FP.Core.val64_ddiv, e1, e2]
    show (if d = 0 then _ else _) = _
    rw [if_neg hd]; rfl
  · refine inf_of (d := FP.Core.ddiv x s) ?_
    rw [FP.Core.val64_ddiv, e1, e2]
    rfl
theorem mul_le {x s : UInt64} (hs : Ps s) (h0 : s.toNat ≠ 0) (hx : x.toNat ≤ 9218868437227405312) : (FP.dmul x s).toNat ≤ 9218868437227405312 := by
  obtain ⟨d, r, e2⟩ := hs.fin
  have hd := ps_nz hs h0 e2
  rcases fin_or_inf hx with ⟨c, q, e1⟩ | e1
  · refine le_inf (d := FP.Core.dmul x s) (s := false) (A := c * d) (B := 1) (e := q + r) ?_
    rw [FP.Core.val64_dmul, e1, e2]
    rfl
  · refine inf_of (d := FP.Core.dmul x s) ?_
    rw [FP.Core.val64_dmul, e1, e2]
    show FP.Core.round _ (if d = 0 then _ else _) = _
    rw [if_neg hd]
    rfl
theorem nan_le {d : UInt64} (h : d.toNat ≤ 9218868437227405312) : FP.dIsNaN d = false := (isnan_iff d).mpr (by omega)
theorem div_neg {x s : UInt64} (hs : Ps s) (h0 : s.toNat ≠ 0) (hx : x.toNat ≤ 9218868437227405312) : FP.ddiv (FP.dneg x) s = FP.dneg (FP.ddiv x s) := by
  rw [FP.dneg_core (nan_le hx), FP.dneg_core (nan_le (div_le hs h0 hx))]
  exact FP.Core.ddiv_dneg x s
theorem mul_neg {x s : UInt64} (hs : Ps s) (h0 : s.toNat ≠ 0) (hx : x.toNat ≤ 9218868437227405312) : FP.dmul (FP.dneg x) s = FP.dneg (FP.dmul x s) := by
  rw [FP.dneg_core (nan_le hx), FP.dneg_core (nan_le (mul_le hs h0 hx))]
  exact FP.Core.dmul_dneg x s
/-- a step: finite and above 0 -/
def StepD (s : Int64) : Prop := Ps s.toUInt64 ∧ s.toUInt64.toNat ≠ 0
theorem StepD.vos {s : Int64} (h : StepD s) : mX1_valueOfSize s = s.toUInt64 := by
  have h1 : s.toUInt64.toNat < 9218868437227405312 := h.1
  have h2 : sz s = s.toUInt64.toNat := Nat.mod_eq_of_lt (by omega)
  rw [vos_all (by omega)]
  apply UInt64.toNat_inj.mp
  rw [size_un (by omega), h2]
theorem quo_w {a s : Int64} (ha : sz a ≤ 9218868437227405312) (hs : StepD s) : mX1_withSignOf (mX1_ofSize (FP.ddiv (mX1_valueOfSize a) (mX1_valueOfSize s))) a = (FP.ddiv a.toUInt64 s.toUInt64).toInt64 := by
  rw [hs.vos, vos_all ha]
  exact sgF (F := fun x => FP.ddiv x s.toUInt64) (fun x hx => div_le hs.1 hs.2 hx) (fun x hx => div_neg hs.1 hs.2 hx) ha rfl
theorem mul_w {W a s : Int64} (hW : sz W ≤ 9218868437227405312) (hn : ng W = ng a) (hs : StepD s) : mX1_withSignOf (mX1_ofSize (FP.dmul (mX1_valueOfSize W) (mX1_valueOfSize s))) a = (FP.dmul W.toUInt64 s.toUInt64).toInt64 := by
  rw [hs.vos, vos_all hW]
  exact sgF (F := fun x => FP.dmul x s.toUInt64) (fun x hx => mul_le hs.1 hs.2 hx) (fun x hx => mul_neg hs.1 hs.2 hx) hW hn
theorem quo_nn {a s : Int64} (ha : sz a ≤ 9218868437227405312) (hs : StepD s) : sz (FP.ddiv a.toUInt64 s.toUInt64).toInt64 ≤ 9218868437227405312 ∧ ng (FP.ddiv a.toUInt64 s.toUInt64).toInt64 = ng a := by
  have hx : (lN (sz a)).toUInt64.toNat ≤ 9218868437227405312 := by rw [size_un ha]; exact ha
  have hq := div_le hs.1 hs.2 hx
  rw [← quo_w ha hs, hs.vos, vos_all ha, ofs_all hq, tu_lN, wsg (by omega)]
  obtain ⟨s1, s2⟩ := sgb_sz (b := ng a) (x := (FP.ddiv (lN (sz a)).toUInt64 s.toUInt64).toNat) (by omega)
  exact ⟨by rw [s1]; exact hq, s2⟩
/-- a whole keeps the sign, and isn't NONE -/
theorem whole_nn {a : Int64} {way : Nat} (hw : way ≤ 3) (h : sz a ≤ 9218868437227405312) : sz (mX7_whole a (nI way)) ≤ 9218868437227405312 ∧ ng (mX7_whole a (nI way)) = ng a := by
  rcases Nat.eq_or_lt_of_le h with e | hlt
  · rw [mwhole hw h]
    unfold wN
    rw [if_pos (Or.inl (by omega)), ← sgb_self a]
    exact ⟨h, rfl⟩
  · obtain ⟨x, h1, h2, h3⟩ := cwhole hw hlt
    rw [← whole_eq hw h, h1]
    obtain ⟨s1, s2⟩ := sgb_sz (b := ng a) (x := x) (by omega)
    exact ⟨by rw [s1]; omega, s2⟩
theorem steps_w {u : AS} {a : Int64} {way : Nat} (hw : way ≤ 3) (ha : sz a ≤ 9218868437227405312) (hs : StepD u.2.2.1) : mX0_wholeSteps_w u a (nI way) = mX7_whole (FP.ddiv a.toUInt64 u.2.2.1.toUInt64).toInt64 (nI way) := by
  unfold mX0_wholeSteps_w
  rw [quo_w ha hs]
  exact whole_eq hw (quo_nn ha hs).1
theorem snap_w {u : AS} {a : Int64} {way : Nat} (hw : way ≤ 3) (ha : sz a ≤ 9218868437227405312) (hs : StepD u.2.2.1) : mX0_snapped_w u a (nI way) = (FP.dmul (mX7_whole (FP.ddiv a.toUInt64 u.2.2.1.toUInt64).toInt64 (nI way)).toUInt64 u.2.2.1.toUInt64).toInt64 := by
  unfold mX0_snapped_w
  rw [steps_w hw ha hs]
  obtain ⟨q1, q2⟩ := quo_nn ha hs
  obtain ⟨w1, w2⟩ := whole_nn hw q1
  exact mul_w w1 (by rw [w2, q2]) hs
