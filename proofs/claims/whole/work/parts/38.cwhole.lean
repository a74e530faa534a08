/-! THE CLASS'S WHOLE, in units; both wholes are one -/
theorem wsg {x : Nat} (hx : x < 2 ^ 63) (a : Int64) : mX1_withSignOf (lN x) a = sgb (ng a) x := by
  unfold mX1_withSignOf
  rw [and_size, sz_lN (by omega), Nat.mod_eq_of_lt hx, Int64.or_comm]
  exact or_sgn a hx
theorem d2l_ps {d : UInt64} (h : Ps d) (hf : zm d / 2 ^ 1074 < 2 ^ 63) : FP.d2l d = lN (zm d / 2 ^ 1074) := by
  rw [← Int64.toInt_inj, pk_lT hf]
  have := FP.Core.d2l_val h.nn
  rw [show FP.Core.sgn (FP.Core.val64 d) = false from by obtain ⟨x, y, e⟩ := h.fin; rw [e]; rfl] at this
  rw [show FP.d2l d = FP.Core.d2l d from rfl, this, show FP.Core.zmag FP.Core.b64 (FP.Core.val64 d) = zm d from rfl, show FP.Core.one64 = 2 ^ 1074 from rfl]
  show max (-2 ^ 63) (min (2 ^ 63 - 1) ((zm d / 2 ^ 1074 : Nat) : Int)) = _
  omega
theorem sub_eq {a b r : UInt64} (ha : Ps a) (hb : Ps b) (hr : Ps r) (h : zm a = zm r + zm b) : FP.dsub a b = r := by
  obtain ⟨c, q, e1⟩ := ha.fin
  obtain ⟨d, w, e2⟩ := hb.fin
  obtain ⟨c', q', e3⟩ := hr.fin
  obtain ⟨z1, g1⟩ := zm_fin e1
  obtain ⟨z2, g2⟩ := zm_fin e2
  obtain ⟨z3, g3⟩ := zm_fin e3
  have f3 := FP.Core.val64_fits r
  rw [e3] at f3
  have hv : FP.Core.val64 (FP.Core.dsub a b) = FP.Core.val64 r := by
    rw [FP.Core.val64_dsub, e1, e2, e3]
    rw [z1, z2, z3] at h
    have hge : d * 2 ^ (w - min q w).toNat ≤ c * 2 ^ (q - min q w).toNat := by
      have hh : d * 2 ^ (w - min q w).toNat * 2 ^ (min q w + 1074).toNat ≤ c * 2 ^ (q - min q w).toNat * 2 ^ (min q w + 1074).toNat := by
        rw [Nat.mul_assoc, Nat.mul_assoc, ← Nat.pow_add, ← Nat.pow_add, show (w - min q w).toNat + (min q w + 1074).toNat = (w + 1074).toNat by omega, show (q - min q w).toNat + (min q w + 1074).toNat = (q + 1074).toNat by omega, h]
        exact Nat.le_add_left _ _
      exact Nat.le_of_mul_le_mul_right hh (Nat.two_pow_pos _)
    have hu : FP.Core.sumUnits false c q true d w (min q w) = ((c * 2 ^ (q - min q w).toNat - d * 2 ^ (w - min q w).toNat : Nat) : Int) := by
      unfold FP.Core.sumUnits FP.Core.signed FP.Core.inUnits
      simp
      omega
    show FP.Core.round _ (.fin (FP.Core.sumSign false true (FP.Core.sumUnits false c q true d w (min q w))) (FP.Core.sumUnits false c q true d w (min q w)).natAbs (min q w)) = _
    rw [hu]
    have hs : FP.Core.sumSign false true ((c * 2 ^ (q - min q w).toNat - d * 2 ^ (w - min q w).toNat : Nat) : Int) = false := by
      unfold FP.Core.sumSign
      split
      · rfl
      · exact decide_eq_false (by omega)
    rw [hs, Int.natAbs_natCast]
    refine FP.Core.roundRatio_exact FP.Core.good_b64 (by decide) f3 ?_
    have h2 : (c * 2 ^ (q - min q w).toNat - d * 2 ^ (w - min q w).toNat) * 2 ^ (min q w + 1074).toNat = c' * 2 ^ (q' + 1074).toNat := by
      rw [Nat.sub_mul, Nat.mul_assoc, Nat.mul_assoc, ← Nat.pow_add, ← Nat.pow_add, show (w - min q w).toNat + (min q w + 1074).toNat = (w + 1074).toNat by omega, show (q - min q w).toNat + (min q w + 1074).toNat = (q + 1074).toNat by omega, h]
      exact Nat.add_sub_cancel _ _
    have h3 := pw_cancel h2
    rw [Nat.mul_one, show (min q w - q').toNat = (min q w + 1074).toNat - (q' + 1074).toNat by omega, show (q' - min q w).toNat = (q' + 1074).toNat - (min q w + 1074).toNat by omega]
    exact h3
  exact (FP.Core.val64_inj hr.nn hv.symm).symm
theorem cv_gt {a b : UInt64} {op : CmpOp} (ha : Ps a) (hb : Ps b) : 0 < Op.cmpValue (FP.dcmp a b) op ↔ zm b < zm a := by
  rw [cv_ps ha hb]
  rcases Nat.lt_trichotomy (zm a) (zm b) with h | h | h
  · rw [(FP.Core.compare_lt_iff _ _).mpr (by omega)]; exact ⟨fun q => absurd q (by decide : ¬ (0 : Int32) < -1), fun q => by omega⟩
  · rw [(FP.Core.compare_eq_iff _ _).mpr (by omega)]; exact ⟨fun q => absurd q (by decide : ¬ (0 : Int32) < 0), fun q => by omega⟩
  · rw [(FP.Core.compare_gt_iff _ _).mpr (by omega)]; exact ⟨fun _ => h, fun _ => (by decide : (0 : Int32) < 1)⟩
theorem cv_eq {a b : UInt64} {op : CmpOp} (ha : Ps a) (hb : Ps b) : Op.cmpValue (FP.dcmp a b) op = 0 ↔ zm a = zm b := by
  rw [cv_ps ha hb]
  rcases Nat.lt_trichotomy (zm a) (zm b) with h | h | h
  · rw [(FP.Core.compare_lt_iff _ _).mpr (by omega)]; exact ⟨fun q => absurd q (by decide : ¬ (-1 : Int32) = 0), fun q => by omega⟩
  · rw [(FP.Core.compare_eq_iff _ _).mpr (by omega)]; exact ⟨fun _ => h, fun _ => rfl⟩
  · rw [(FP.Core.compare_gt_iff _ _).mpr (by omega)]; exact ⟨fun q => absurd q (by decide : ¬ (1 : Int32) = 0), fun q => by omega⟩
theorem cv_le {a b : UInt64} {op : CmpOp} (ha : Ps a) (hb : Ps b) : Op.cmpValue (FP.dcmp a b) op ≤ 0 ↔ zm a ≤ zm b := by
  have h := cv_gt (op := op) ha hb
  rw [Int32.lt_iff_toInt_lt] at h
  rw [Int32.le_iff_toInt_le]
  omega
theorem grows_iff {r : UInt64} (hr : Ps r) (o n : Int32) {way : Nat} (hw : way ≤ 3) : mX5_growsInSize r o n (nI way) = 0 ↔ ¬ ((way = 0 ∧ ¬ n = 0 ∧ zm r ≠ 0) ∨ (way = 1 ∧ n = 0 ∧ zm r ≠ 0) ∨ (way = 2 ∧ (2 ^ 1073 < zm r ∨ zm r = 2 ^ 1073 ∧ ¬ o = 0))) := by
  have p0 : Ps FP.dconst0 ∧ zm FP.dconst0 = 0 := ⟨by unfold Ps; decide +kernel, by decide +kernel⟩
  have ph : Ps 4602678819172646912 ∧ zm 4602678819172646912 = 2 ^ 1073 := ⟨by unfold Ps; decide +kernel, by decide +kernel⟩
  have k0 : Op.cmpValue (FP.dcmp r FP.dconst0) .l ≤ 0 ↔ ¬ zm r ≠ 0 := by rw [cv_le hr p0.1, p0.2]; omega
  have k1 : 0 < Op.cmpValue (FP.dcmp r 4602678819172646912) .l ↔ 2 ^ 1073 < zm r := by rw [cv_gt hr ph.1, ph.2]
  have k2 : Op.cmpValue (FP.dcmp r 4602678819172646912) .l = 0 ↔ zm r = 2 ^ 1073 := by rw [cv_eq hr ph.1, ph.2]
  have w0 : nI way = (0 : Int32) ↔ way = 0 := by rw [show (0 : Int32) = nI 0 from rfl, nI_eq (by omega) (by decide)]
  have w1 : nI way = (1 : Int32) ↔ way = 1 := by rw [show (1 : Int32) = nI 1 from rfl, nI_eq (by omega) (by decide)]
  have w2 : nI way = (2 : Int32) ↔ way = 2 := by rw [show (2 : Int32) = nI 2 from rfl, nI_eq (by omega) (by decide)]
  have one : ¬ (1 : Int32) = 0 := by decide
  unfold mX5_growsInSize
  simp only [k0, k1, k2, w0, w1, w2]
  generalize zm r = z
  generalize (2 : Nat) ^ 1073 = h
  by_cases a0 : way = 0
  · by_cases a1 : n = 0 <;> by_cases a2 : z = 0 <;> simp [a0, a1, a2]
  · by_cases b0 : way = 1
    · by_cases a1 : n = 0 <;> by_cases a2 : z = 0 <;> simp [b0, a1, a2]
    · by_cases c0 : way = 2
      · by_cases a1 : h < z <;> by_cases a2 : z = h <;> by_cases a3 : o = 0 <;> simp [c0, a1, a2, a3]
      · simp [a0, b0, c0]
