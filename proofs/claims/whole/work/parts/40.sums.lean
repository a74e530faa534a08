/-! SUMS of the class are the machine's sums -/
theorem sg64 {d : UInt64} (h : FP.dIsNaN d = false) : FP.Core.sgn (FP.Core.val64 d) = decide (2 ^ 63 ≤ d.toNat) := FP.Core.sgn_bits ((FP.Core.notNaN_iff d).mp h)
theorem sg32 {d : UInt32} (h : FP.fIsNaN d = false) : FP.Core.sgn (FP.Core.val32 d) = decide (2 ^ 31 ≤ d.toNat) := FP.Core.sgn_bits32 ((FP.Core.notNaN_iff32 d).mp h)
theorem nan_of {a : Int64} (h : sz a ≤ 9218868437227405312) : FP.dIsNaN a.toUInt64 = false := (isnan_iff _).mpr h
theorem nan4_of {y : Int32} (h : sz4 y ≤ 2139095040) : FP.fIsNaN y.toUInt32 = false := (isnan4_iff _).mpr h
theorem and_and_sign (a b : Int64) : (a &&& b) &&& (-9223372036854775808 : Int64) = lN (if ng a = true ∧ ng b = true then 2 ^ 63 else 0) := by
  rw [Int64.and_assoc, and_sign b]
  by_cases hb : ng b = true
  · rw [if_pos hb, show lN (2 ^ 63) = (-9223372036854775808 : Int64) from by decide, and_sign a]
    by_cases ha : ng a = true
    · rw [if_pos ha, if_pos ⟨ha, hb⟩]
    · rw [if_neg ha, if_neg (fun q => ha q.1)]
  · rw [if_neg hb, if_neg (fun q => hb q.2)]
    show a &&& 0 = 0
    exact Int64.and_zero
theorem sum_w_eq {u : AS} {a b : Int64} (ha : sz a ≤ 9218868437227405312) (hb : sz b ≤ 9218868437227405312) (hn : FP.dIsNaN (FP.dadd a.toUInt64 b.toUInt64) = false) : mX0_sum_w u a b = (FP.dadd a.toUInt64 b.toUInt64).toInt64 := by
  unfold mX0_sum_w
  rw [value_eq ha, value_eq hb]
  by_cases hz : (FP.dadd a.toUInt64 b.toUInt64).toNat % 2 ^ 63 = 0
  · rw [if_pos ((cmp0 hn .l).2.mpr hz), and_and_sign, tu_lN]
    obtain ⟨s, q, e⟩ := (FP.Core.zero_bits2 _).mpr hz
    have hs := sg64 hn
    have e2 := FP.Core.val64_dadd a.toUInt64 b.toUInt64
    rw [show FP.Core.val64 (FP.Core.dadd a.toUInt64 b.toUInt64) = FP.Core.val64 (FP.dadd a.toUInt64 b.toUInt64) from rfl, e] at e2
    have h3 := zsum FP.Core.good_b64 (FP.Core.val64_fits _) (FP.Core.val64_fits _) e2.symm
    rw [sg64 (nan_of ha), sg64 (nan_of hb)] at h3
    rw [e, show FP.Core.sgn (.fin s 0 q) = s from rfl, h3] at hs
    have hlt := (FP.dadd a.toUInt64 b.toUInt64).toNat_lt
    refine congrArg lN ?_
    by_cases hc : ng a = true ∧ ng b = true
    · rw [if_pos hc]
      have : decide (2 ^ 63 ≤ (FP.dadd a.toUInt64 b.toUInt64).toNat) = true := by rw [← hs]; unfold ng at hc; rw [hc.1, hc.2]; rfl
      have := of_decide_eq_true this
      omega
    · rw [if_neg hc]
      have : ¬ decide (2 ^ 63 ≤ (FP.dadd a.toUInt64 b.toUInt64).toNat) = true := by
        rw [← hs, Bool.and_eq_true]; exact hc
      rw [decide_eq_true_iff] at this
      omega
  · rw [if_neg (fun q => hz ((cmp0 hn .l).2.mp q))]
    exact of_eq hn hz
theorem wd_nn {y : Int32} (h : sz4 y ≤ 2139095040) : sz (mX3_widened y) ≤ 9218868437227405312 := by rw [sz_wide h]; exact Wd_63 h
theorem ng_wide {y : Int32} (h : sz4 y ≤ 2139095040) : ng (mX3_widened y) = ng4 y := by
  have := sg_wide h
  unfold ng ng4
  exact decide_eq_decide.mpr (by omega)
theorem d2f_f2d' {z : UInt32} (h : FP.fIsNaN z = false) : FP.d2f (FP.f2d z) = z := by
  rw [FP.d2f_core (by rw [Jvm.FP.f2d_nan]; exact h), FP.f2d_core h]
  exact FP.Core.d2f_f2d ((FP.Core.notNaN_iff32 z).mp h)
theorem d2f_wd {y : Int32} (h : sz4 y ≤ 2139095040) : FP.d2f (mX1_value (mX3_widened y)) = y.toUInt32 := by
  rw [value_eq (wd_nn h), ← f2d_wide h]
  exact d2f_f2d' (nan4_of h)
theorem Wd_0 : Wd 0 = 0 := by
  unfold Wd
  rw [if_pos (by decide)]
  decide +kernel
theorem Wd_z {m : Nat} (h : m ≤ 2139095040) : Wd m = 0 ↔ m = 0 := by
  have := Wd_lt' (m := 0) (k := m) (by decide) h
  rw [Wd_0] at this
  omega
theorem un4_toInt32 (z : UInt32) : z.toInt32.toUInt32 = z := rfl
theorem un_toInt64 (z : UInt64) : z.toInt64.toUInt64 = z := rfl
theorem sum_h_eq {u : AS} {a b : Int32} (ha : sz4 a ≤ 2139095040) (hb : sz4 b ≤ 2139095040) (hn : FP.fIsNaN (FP.fadd a.toUInt32 b.toUInt32) = false) : mX0_sum_h u (mX3_widened a) (mX3_widened b) = mX3_widened (FP.fadd a.toUInt32 b.toUInt32).toInt32 := by
  unfold mX0_sum_h
  rw [d2f_wd ha, d2f_wd hb]
  generalize hse : FP.fadd a.toUInt32 b.toUInt32 = s at *
  have hS : sz4 s.toInt32 ≤ 2139095040 := (isnan4_iff s).mp hn
  have hf : FP.f2d s = (mX3_widened s.toInt32).toUInt64 := f2d_wide hS
  have hn2 : FP.dIsNaN (FP.f2d s) = false := by rw [Jvm.FP.f2d_nan]; exact hn
  have hzz : (FP.f2d s).toNat % 2 ^ 63 = Wd (sz4 s.toInt32) := by rw [hf]; exact sz_wide hS
  by_cases hz : sz4 s.toInt32 = 0
  · rw [if_pos ((cmp0 hn2 .l).2.mpr (by rw [hzz]; exact (Wd_z hS).mpr hz)), and_and_sign, ng_wide ha, ng_wide hb]
    obtain ⟨t, q, e⟩ := (FP.Core.zero_bits232 s).mpr hz
    have hs := sg32 hn
    have e2 := FP.Core.val32_fadd a.toUInt32 b.toUInt32
    rw [show FP.Core.fadd a.toUInt32 b.toUInt32 = s from hse, e] at e2
    have h3 := zsum FP.Core.good_b32 (FP.Core.val32_fits _) (FP.Core.val32_fits _) e2.symm
    rw [sg32 (nan4_of ha), sg32 (nan4_of hb)] at h3
    rw [e, show FP.Core.sgn (.fin t 0 q) = t from rfl, h3] at hs
    rw [wide_un hS, hz, Wd_0]
    refine congrArg lN ?_
    have hs' : (ng4 a && ng4 b) = decide (2 ^ 31 ≤ s.toNat) := hs
    by_cases hc : ng4 a = true ∧ ng4 b = true
    · rw [if_pos hc]
      rw [hc.1, hc.2] at hs'
      have := of_decide_eq_true hs'.symm
      rw [if_neg (show ¬ s.toInt32.toUInt32.toNat < 2 ^ 31 by rw [un4_toInt32]; omega)]
    · rw [if_neg hc]
      have : ¬ decide (2 ^ 31 ≤ s.toNat) = true := by
        rw [← hs', Bool.and_eq_true]; exact hc
      rw [decide_eq_true_iff] at this
      rw [if_pos (show s.toInt32.toUInt32.toNat < 2 ^ 31 by rw [un4_toInt32]; omega)]
  · rw [if_neg (fun q => by have := (cmp0 hn2 .l).2.mp q; rw [hzz, Wd_z hS] at this; exact hz this), of_eq hn2 (by rw [hzz]; exact fun q => hz ((Wd_z hS).mp q)), hf]
    rfl
