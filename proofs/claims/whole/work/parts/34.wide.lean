/-! WIDE AND SLIM: a float's bits and the double's bits of the same worth -/
def sz4 (y : Int32) : Nat := y.toUInt32.toNat % 2 ^ 31
theorem un4_lt (y : Int32) : y.toUInt32.toNat < 2 ^ 32 := y.toUInt32.toBitVec.isLt
theorem sz4_lt (y : Int32) : sz4 y < 2 ^ 31 := Nat.mod_lt _ (by decide)
theorem nI_un (y : Int32) : y = nI y.toUInt32.toNat := by
  obtain ⟨n, hn, rfl⟩ := wb_of32 y
  have : (nI n).toUInt32.toNat = n := pk_tn hn
  rw [this]
theorem nI_tu {n : Nat} (h : n < 2 ^ 32) : (nI n).toUInt32.toNat = n := pk_tn h
theorem and_size4 (y : Int32) : y &&& (2147483647 : Int32) = nI (sz4 y) := pk_and y 31 (by decide)
theorem toInt_nI {n : Nat} (h : n < 2 ^ 32) : (nI n).toInt = if n < 2 ^ 31 then (n : Int) else (n : Int) - 2 ^ 32 := by
  have h1 : (nI n).toInt = (nI n).toBitVec.toInt := rfl
  rw [h1, BitVec.toInt_eq_toNat_cond, pk_tn h]
  by_cases h2 : n < 2 ^ 31
  · rw [if_pos h2, if_pos (by omega)]
  · rw [if_neg h2, if_neg (by omega)]; rfl
theorem i32_0 : (0 : Int32).toInt = 0 := by decide
theorem neg4_iff (y : Int32) : 0 ≤ y ↔ y.toUInt32.toNat < 2 ^ 31 := by
  have := un4_lt y
  rw [Int32.le_iff_toInt_le, i32_0]
  have h := toInt_nI this
  rw [← nI_un] at h
  rw [h]
  split <;> omega
theorem or_sign {m : Nat} (h : m < 2 ^ 63) : ((-9223372036854775808 : Int64) ||| lN m) = lN (2 ^ 63 + m) := by
  have h1 : (-9223372036854775808 : Int64) = lN (2 ^ 63) := by decide
  rw [h1, wb_or (by decide) (by omega)]
  congr 1
  have := Nat.two_pow_add_eq_or_of_lt h 1
  rw [Nat.mul_one] at this
  exact this.symm
theorem or_zero (x : Int64) : ((0 : Int64) ||| x) = x := by
  apply wb_inj
  show 0#64 ||| x.toBitVec = x.toBitVec
  exact BitVec.zero_or
/-- the bits of a double with the size m of a float's -/
def Wd (m : Nat) : Nat := if m < 2 ^ 23 then (rp m 925).toNat else if m < 2139095040 then m * 2 ^ 29 + 896 * 2 ^ 52 else 9218868437227405312
theorem Wd_fin {m : Nat} (h : m < 2139095040) : Wd m < 9218868437227405312 ∧ FP.Core.unitsOf FP.Core.b64 (Wd m) = FP.Core.unitsOf FP.Core.b32 m * 2 ^ 925 := by
  unfold Wd
  by_cases h1 : m < 2 ^ 23
  · rw [if_pos h1]
    obtain ⟨r1, r2⟩ := rp_ok (c := m) (k := 925) (by omega) (by omega)
    refine ⟨r1, ?_⟩
    rw [← zm_bits r1, r2]
    unfold FP.Core.unitsOf
    rw [FP.Core.tails_b32, if_pos h1]
  · rw [if_neg h1, if_pos h]
    refine ⟨by omega, ?_⟩
    unfold FP.Core.unitsOf
    rw [FP.Core.tails_b32, FP.Core.tails_b64, if_neg h1, if_neg (by omega)]
    have e1 : (m * 2 ^ 29 + 896 * 2 ^ 52) % 2 ^ 52 = m % 2 ^ 23 * 2 ^ 29 := by omega
    have e2 : (m * 2 ^ 29 + 896 * 2 ^ 52) / 2 ^ 52 - 1 = (m / 2 ^ 23 - 1) + 896 := by omega
    rw [e1, e2, Nat.pow_add, show (2 : Nat) ^ 925 = 2 ^ 29 * 2 ^ 896 from by rw [← Nat.pow_add]]
    rw [show (2 : Nat) ^ 52 + m % 2 ^ 23 * 2 ^ 29 = (2 ^ 23 + m % 2 ^ 23) * 2 ^ 29 from by omega]
    simp only [Nat.mul_assoc, Nat.mul_comm, Nat.mul_left_comm]
theorem Wd_lt {m k : Nat} (hm : m < 2139095040) (hk : k < 2139095040) : Wd m < Wd k ↔ m < k := by
  obtain ⟨a1, a2⟩ := Wd_fin hm
  obtain ⟨b1, b2⟩ := Wd_fin hk
  have h1 := FP.Core.unitsOf_lt_iff (f := FP.Core.b64) (m := Wd m) (k := Wd k)
  have h2 := FP.Core.unitsOf_lt_iff (f := FP.Core.b32) (m := m) (k := k)
  rw [← h1, ← h2, a2, b2]
  exact Nat.mul_lt_mul_right (Nat.two_pow_pos 925)
theorem Wd_inf : Wd 2139095040 = 9218868437227405312 := by unfold Wd; rfl
theorem Wd_lt' {m k : Nat} (hm : m ≤ 2139095040) (hk : k ≤ 2139095040) : Wd m < Wd k ↔ m < k := by
  rcases Nat.eq_or_lt_of_le hm with e1 | h1 <;> rcases Nat.eq_or_lt_of_le hk with e2 | h2
  · rw [e1, e2]; omega
  · rw [e1, Wd_inf]; have := (Wd_fin h2).1; omega
  · rw [e2, Wd_inf]; have := (Wd_fin h1).1; omega
  · exact Wd_lt h1 h2
theorem Wd_63 {m : Nat} (hm : m ≤ 2139095040) : Wd m ≤ 9218868437227405312 := by
  rcases Nat.eq_or_lt_of_le hm with e1 | h1
  · rw [e1, Wd_inf]; exact Nat.le_refl _
  · exact Nat.le_of_lt (Wd_fin h1).1
/-- the body of widened, on sizes -/
theorem wide_body {m : Nat} (h : m ≤ 2139095040) : (if nI m < (2139095040 : Int32) then (if (8388608 : Int32) ≤ nI m then (((nI m).toInt64 <<< ((29 : Int32).toInt64 &&& 63)) + (4035225266123964416 : Int64)) else mX1_ofSize (FP.dmul (FP.i2d (nI m)) (3936146074321813504 : UInt64))) else ((9218868437227405312 : Int64) + (nI m - (2139095040 : Int32)).toInt64)) = lN (Wd m) := by
  have c1 : nI m < (2139095040 : Int32) ↔ m < 2139095040 := by
    rw [show (2139095040 : Int32) = nI 2139095040 from rfl, nI_ltI (by omega) (by decide)]
  have c2 : (8388608 : Int32) ≤ nI m ↔ 8388608 ≤ m := by
    rw [show (8388608 : Int32) = nI 8388608 from rfl, nI_leI (by decide) (by omega)]
  unfold Wd
  by_cases h1 : m < 2139095040
  · rw [if_pos (c1.mpr h1)]
    by_cases h2 : 8388608 ≤ m
    · rw [if_pos (c2.mpr h2), if_neg (by omega), if_pos h1, nI_l (by omega), show lN m <<< ((29 : Int32).toInt64 &&& 63) = lN (m * 2 ^ 29) from wb_shl m (k := 29) (by decide), show (4035225266123964416 : Int64) = lN (896 * 2 ^ 52) from by decide, lN_add]
    · rw [if_neg (fun q => h2 (c2.mp q)), if_pos (by omega)]
      have e1 : FP.i2d (nI m) = rp m 1074 := by
        rw [show FP.i2d (nI m) = FP.l2d (nI m).toInt64 from FP.Core.i2d_l2d _, nI_l (by omega), ps_l2d (by omega)]
      have p : Ps 3936146074321813504 ∧ zm 3936146074321813504 = 2 ^ 925 := ⟨by unfold Ps; decide +kernel, by decide +kernel⟩
      obtain ⟨r1, r2⟩ := rp_ok (c := m) (k := 1074) (by omega) (by omega)
      obtain ⟨r3, r4⟩ := rp_ok (c := m) (k := 925) (by omega) (by omega)
      rw [e1, mul_eq r1 p.1 r3 (by rw [r2, r4, p.2, Nat.mul_assoc, Nat.mul_assoc, Nat.mul_comm (2 ^ 1074)]), ofs_ps r3, tu_lN]
  · have : m = 2139095040 := by omega
    subst this
    decide
theorem wide_un {y : Int32} (h : sz4 y ≤ 2139095040) : mX3_widened y = lN ((if y.toUInt32.toNat < 2 ^ 31 then 0 else 2 ^ 63) + Wd (sz4 y)) := by
  have hb := wide_body h
  have hw := Wd_63 h
  have e : mX3_widened y = if 0 ≤ y then ((0 : Int64) ||| lN (Wd (sz4 y))) else ((-9223372036854775808 : Int64) ||| lN (Wd (sz4 y))) := by
    rw [← hb]
    unfold mX3_widened
    rw [and_size4]
    repeat' split
    all_goals rfl
  rw [e]
  by_cases h0 : y.toUInt32.toNat < 2 ^ 31
  · rw [if_pos ((neg4_iff y).mpr h0), if_pos h0, or_zero, Nat.zero_add]
  · rw [if_neg (fun q => h0 ((neg4_iff y).mp q)), if_neg h0, or_sign (by omega)]
theorem sz_wide {y : Int32} (h : sz4 y ≤ 2139095040) : sz (mX3_widened y) = Wd (sz4 y) := by
  have hw := Wd_63 h
  rw [wide_un h, sz_lN (by split <;> omega)]
  split <;> omega
theorem sg_wide {y : Int32} (h : sz4 y ≤ 2139095040) : (mX3_widened y).toUInt64.toNat < 2 ^ 63 ↔ y.toUInt32.toNat < 2 ^ 31 := by
  have hw := Wd_63 h
  rw [wide_un h, lN_tu (by split <;> omega)]
  split <;> omega
/-- NONE stays NONE -/
theorem none4_iff (y : Int32) : mX7_isNone4 y = 0 ↔ sz4 y ≤ 2139095040 := by
  unfold mX7_isNone4 mX7_size4
  rw [and_size4]
  have h1 := sz4_lt y
  have h2 : nI (sz4 y) ≤ (2139095040 : Int32) ↔ sz4 y ≤ 2139095040 := by
    rw [show (2139095040 : Int32) = nI 2139095040 from rfl, nI_leI h1 (by decide)]
  split
  · rename_i h; exact ⟨fun _ => h2.mp h, fun _ => rfl⟩
  · rename_i h; exact ⟨fun q => absurd q (by decide), fun q => absurd (h2.mpr q) h⟩
theorem none_wide (y : Int32) : mX1_isNone (mX3_widened y) = 0 ↔ mX7_isNone4 y = 0 := by
  rw [none4_iff, show mX1_isNone (mX3_widened y) = mX7_isNone (mX3_widened y) from rfl, isNone_iff]
  have h1 := sz4_lt y
  by_cases h : sz4 y ≤ 2139095040
  · rw [sz_wide h]
    exact ⟨fun _ => h, fun _ => Wd_63 h⟩
  · refine ⟨fun q => absurd q ?_, fun q => absurd q h⟩
    have hc : ¬ (y &&& (2147483647 : Int32)) < (2139095040 : Int32) := by
      rw [and_size4, show (2139095040 : Int32) = nI 2139095040 from rfl, nI_ltI h1 (by decide)]; omega
    have hv : (9218868437227405312 : Int64) + ((y &&& (2147483647 : Int32)) - (2139095040 : Int32)).toInt64 = lN (9218868437227405312 + (sz4 y - 2139095040)) := by
      rw [and_size4, show (2139095040 : Int32) = nI 2139095040 from rfl, pk_sub (by omega), nI_l (by omega), show (9218868437227405312 : Int64) = lN 9218868437227405312 from rfl, lN_add]
    have e : sz (mX3_widened y) = 9218868437227405312 + (sz4 y - 2139095040) := by
      unfold mX3_widened
      by_cases h0 : 0 ≤ y
      · rw [if_pos h0, if_neg hc, hv, or_zero, sz_lN (by omega)]; omega
      · rw [if_neg h0, if_neg hc, hv, or_sign (by omega), sz_lN (by omega)]; omega
    omega
/-- -0 below 0 -/
def ky4 (y : Int32) : Int := if y.toUInt32.toNat < 2 ^ 31 then (sz4 y : Int) else -1 - (sz4 y : Int)
theorem ky_wide {a b : Int32} (ha : sz4 a ≤ 2139095040) (hb : sz4 b ≤ 2139095040) : ky (mX3_widened a) ≤ ky (mX3_widened b) ↔ ky4 a ≤ ky4 b := by
  have h1 := Wd_lt' ha hb
  have h2 := Wd_lt' hb ha
  have h3 := sg_wide ha
  have h4 := sg_wide hb
  unfold ky ky4
  rw [sz_wide ha, sz_wide hb]
  by_cases g1 : a.toUInt32.toNat < 2 ^ 31 <;> by_cases g2 : b.toUInt32.toNat < 2 ^ 31
  · rw [if_pos (h3.mpr g1), if_pos (h4.mpr g2), if_pos g1, if_pos g2]; omega
  · rw [if_pos (h3.mpr g1), if_neg (fun q => g2 (h4.mp q)), if_pos g1, if_neg g2]; omega
  · rw [if_neg (fun q => g1 (h3.mp q)), if_pos (h4.mpr g2), if_neg g1, if_pos g2]; omega
  · rw [if_neg (fun q => g1 (h3.mp q)), if_neg (fun q => g2 (h4.mp q)), if_neg g1, if_neg g2]; omega
/-- a double with the same worth as a float -/
theorem f2d_wide {y : Int32} (h : sz4 y ≤ 2139095040) : FP.f2d y.toUInt32 = (mX3_widened y).toUInt64 := by
  have hnn : FP.Core.val32 y.toUInt32 ≠ .nan := by rw [FP.Core.ne_nan32]; exact h
  have hnn2 : FP.fIsNaN y.toUInt32 = false := (FP.Core.notNaN_iff32 _).mpr hnn
  have hw := Wd_63 h
  have hsz := sz_wide h
  have hsg := sg_wide h
  have hn64 : FP.Core.val64 (mX3_widened y).toUInt64 ≠ .nan := by
    rw [FP.Core.ne_nan]; unfold sz at hsz; omega
  rw [FP.f2d_core hnn2]
  refine (FP.Core.val64_inj hn64 ?_).symm
  rw [FP.Core.val64_f2d]
  have s1 := FP.Core.sgn_bits hn64
  have s2 := FP.Core.sgn_bits32 hnn
  rcases Nat.eq_or_lt_of_le h with e | hlt
  · have i1 : FP.Core.mag FP.Core.b32 y.toUInt32.toNat = FP.Core.infBits FP.Core.b32 := by
      rw [FP.Core.mag_toNat32, FP.Core.infBits_b32]; exact e
    have i2 : FP.Core.mag FP.Core.b64 (mX3_widened y).toUInt64.toNat = FP.Core.infBits FP.Core.b64 := by
      rw [FP.Core.mag_toNat64, FP.Core.infBits_b64]
      rw [e, Wd_inf] at hsz
      exact hsz
    have v1 : FP.Core.val32 y.toUInt32 = .inf (FP.Core.fieldS FP.Core.b32 y.toUInt32.toNat) := FP.Core.decode_inf i1
    have v2 : FP.Core.val64 (mX3_widened y).toUInt64 = .inf (FP.Core.fieldS FP.Core.b64 (mX3_widened y).toUInt64.toNat) := FP.Core.decode_inf i2
    rw [v1] at s2 ⊢
    rw [v2] at s1 ⊢
    have a1 : FP.Core.fieldS FP.Core.b64 (mX3_widened y).toUInt64.toNat = decide (2 ^ 63 ≤ (mX3_widened y).toUInt64.toNat) := s1
    have a2 : FP.Core.fieldS FP.Core.b32 y.toUInt32.toNat = decide (2 ^ 31 ≤ y.toUInt32.toNat) := s2
    show _ = FP.Core.Datum.inf _
    rw [a1, a2]
    exact congrArg _ (decide_eq_decide.mpr (by omega))
  · have f1 : FP.Core.FFin y.toUInt32 := by rw [FP.Core.fin_bits32]; exact hlt
    have f2 : FP.Core.DFin (mX3_widened y).toUInt64 := by
      rw [FP.Core.fin_bits]; have := (Wd_fin hlt).1; unfold sz at hsz; omega
    obtain ⟨s, c, q, e1⟩ := f1
    obtain ⟨t, c', q', e2⟩ := f2
    have z1 : FP.Core.zmag FP.Core.b32 (FP.Core.val32 y.toUInt32) = FP.Core.unitsOf FP.Core.b32 (sz4 y) := FP.Core.zmag_bits32 hnn
    have z2 : FP.Core.zmag FP.Core.b64 (FP.Core.val64 (mX3_widened y).toUInt64) = FP.Core.unitsOf FP.Core.b64 (sz (mX3_widened y)) := FP.Core.zmag_bits hn64
    rw [hsz, (Wd_fin hlt).2] at z2
    have k2 := zm_fin e2
    unfold zm at k2
    rw [e1] at s2 z1 ⊢
    rw [z2, ← z1] at k2
    rw [e2] at s1 ⊢
    have hst : s = t := by
      rw [show FP.Core.sgn (.fin s c q) = s from rfl] at s2
      rw [show FP.Core.sgn (.fin t c' q') = t from rfl] at s1
      rw [s1, s2]
      exact decide_eq_decide.mpr (by omega)
    subst hst
    have ft := FP.Core.val32_fits y.toUInt32
    rw [e1] at ft
    have hq : -149 ≤ q := by have := ft.2.1; rw [FP.Core.qmin_b32] at this; exact this
    have ft2 := FP.Core.val64_fits (mX3_widened y).toUInt64
    rw [e2] at ft2
    refine (FP.Core.roundRatio_exact FP.Core.good_b64 (by decide) ft2 ?_).symm
    have h2 : c * 2 ^ (q + 1074).toNat = c' * 2 ^ (q' + 1074).toNat := by
      rw [← k2.1]
      show _ = FP.Core.inUnits c q FP.Core.b32.qmin * 2 ^ 925
      rw [FP.Core.qmin_b32]
      unfold FP.Core.inUnits
      rw [Nat.mul_assoc, ← Nat.pow_add]
      congr 2; omega
    have h3 := pw_cancel h2
    rw [Nat.mul_one, show (q - q').toNat = (q + 1074).toNat - (q' + 1074).toNat by omega, show (q' - q).toNat = (q' + 1074).toNat - (q + 1074).toNat by omega]
    exact h3
