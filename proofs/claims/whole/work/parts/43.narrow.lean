/-! BACK TO FLOATS: narrowed, unit -/
theorem or4_sign {m : Nat} (h : m < 2 ^ 31) : ((-2147483648 : Int32) ||| nI m) = nI (2 ^ 31 + m) := by
  rw [show (-2147483648 : Int32) = nI (2 ^ 31) from by decide, nI_or (by decide) (by omega)]
  have := Nat.two_pow_add_eq_or_of_lt h 1
  rw [Nat.mul_one] at this
  rw [← this]
theorem or4_zero {m : Nat} (h : m < 2 ^ 31) : ((0 : Int32) ||| nI m) = nI m := by
  rw [show (0 : Int32) = nI 0 from rfl, nI_or (by decide) (by omega), Nat.zero_or]
theorem i2d_rp {m : Nat} (h : m < 2 ^ 31) : FP.i2d (nI m) = rp m 1074 := by
  rw [show FP.i2d (nI m) = FP.l2d (nI m).toInt64 from FP.Core.i2d_l2d _, nI_l h, ps_l2d (by omega)]
theorem narrow_body {m : Nat} (h : m < 2139095040) : (if 0 ≤ lg_cmp (lN (Wd m)) (4039728865751334912 : Int64) then ((((lN (Wd m) - (4035225266123964416 : Int64))).toUInt64 >>> ((29 : Int32).toInt64.toUInt64 &&& Int64.toUInt64 63)).toInt64).toInt32 else FP.d2i (FP.dmul (mX1_valueOfSize (lN (Wd m))) (5278218763278221312 : UInt64))) = nI m := by
  have hW := (Wd_fin h).1
  have hc : 0 ≤ lg_cmp (lN (Wd m)) (4039728865751334912 : Int64) ↔ 2 ^ 23 ≤ m := by
    rw [lg_cmp_ge, show (4039728865751334912 : Int64) = lN (897 * 2 ^ 52) from by decide, pk_lLE (by decide) (by omega)]
    have h1 := Wd_lt (m := m) (k := 2 ^ 23) h (by decide)
    have h2 : Wd (2 ^ 23) = 897 * 2 ^ 52 := by unfold Wd; rfl
    rw [h2] at h1
    omega
  by_cases hm : 2 ^ 23 ≤ m
  · rw [if_pos (hc.mpr hm)]
    have e : Wd m = m * 2 ^ 29 + 896 * 2 ^ 52 := by unfold Wd; rw [if_neg (by omega), if_pos h]
    rw [e, show (4035225266123964416 : Int64) = lN (896 * 2 ^ 52) from by decide, lN_sub (by omega), Nat.add_sub_cancel, show (((lN (m * 2 ^ 29)).toUInt64 >>> ((29 : Int32).toInt64.toUInt64 &&& Int64.toUInt64 63)).toInt64) = lN (m * 2 ^ 29 / 2 ^ 29) from wb_shr (k := 29) (by omega) (by decide), Nat.mul_div_cancel _ (by decide), lN_i]
  · rw [if_neg (fun q => hm (hc.mp q))]
    have e : Wd m = (rp m 925).toNat := by unfold Wd; rw [if_pos (by omega)]
    obtain ⟨r1, r2⟩ := rp_ok (c := m) (k := 925) (by omega) (by omega)
    have hz : sz (lN (Wd m)) = Wd m := by rw [sz_lN (by omega), Nat.mod_eq_of_lt (by omega)]
    have hv : mX1_valueOfSize (lN (Wd m)) = rp m 925 := by
      rw [vos_all (by rw [hz]; omega), hz]
      exact lN_tu2 (by omega) e.symm
    have p : Ps 5278218763278221312 ∧ zm 5278218763278221312 = 2 ^ (1074 + 149) := ⟨by unfold Ps; decide +kernel, by decide +kernel⟩
    rw [hv, rp_mul (by omega) p.1 p.2 (by omega), show 925 + 149 = 1074 from rfl, ← i2d_rp (by omega)]
    exact FP.Core.d2i_i2d (nI m)
theorem narrow_wide {y : Int32} (h : sz4 y < 2139095040) : mX3_narrowed (mX3_widened y) = y := by
  have hb := narrow_body h
  have hle : sz4 y ≤ 2139095040 := by omega
  have hs := sz_wide hle
  have hsg := sg_wide hle
  have e : mX3_narrowed (mX3_widened y) = if 0 ≤ lg_cmp (mX3_widened y) 0 then ((0 : Int32) ||| nI (sz4 y)) else ((-2147483648 : Int32) ||| nI (sz4 y)) := by
    rw [← hb]
    unfold mX3_narrowed
    rw [and_size, hs]
    repeat' split
    all_goals rfl
  rw [e]
  conv => rhs; rw [sgb4_self y]
  unfold sgb4
  have hl := sz4_lt y
  by_cases hn : ng4 y = true
  · have := ng4_t.mp hn
    rw [if_neg (fun q => this (hsg.mp ((neg_iff _).mp q))), if_pos hn, or4_sign hl]
  · have : y.toUInt32.toNat < 2 ^ 31 := Decidable.byContradiction (fun q => hn (ng4_t.mpr q))
    rw [if_pos ((neg_iff _).mpr (hsg.mpr this)), if_neg hn, or4_zero hl, Nat.zero_add]
theorem unit_eq (a : Int64) : mX1_unit a = if lg_cmp (mX7_size a) (0 : Int64) = 0 then a else ((4607182418800017408 : Int64) ||| (a &&& (-9223372036854775808 : Int64))) := by
  unfold mX1_unit mX7_size mX1_withSignOf
  rw [show (4607182418800017408 : Int64) &&& (9223372036854775807 : Int64) = 4607182418800017408 from by decide]
theorem wd_sgb {b : Bool} {m : Nat} (h : m ≤ 2139095040) : mX3_widened (sgb4 b m) = sgb b (Wd m) := by
  obtain ⟨s1, s2⟩ := sgb4_sz (b := b) (x := m) (by omega)
  rw [wide_un (by rw [s1]; exact h), s1]
  unfold sgb
  have q := ng4_t (y := sgb4 b m)
  rw [s2] at q
  by_cases hb : b = true
  · rw [if_pos hb, if_neg (q.mp hb)]
  · rw [if_neg hb, if_pos (Decidable.byContradiction (fun z => hb (q.mpr z)))]
theorem lift_eq {y : Int32} (h : sz4 y < 2139095040) : mX3_narrowed (mX1_unit (mX3_widened y)) = if mX7_size4 y = 0 then y else ((1065353216 : Int32) ||| (y &&& (-2147483648 : Int32))) := by
  have hle : sz4 y ≤ 2139095040 := by omega
  have hs := sz_wide hle
  have c1 : lg_cmp (mX7_size (mX3_widened y)) (0 : Int64) = 0 ↔ sz4 y = 0 := by
    rw [show mX7_size (mX3_widened y) = lN (sz (mX3_widened y)) from and_size _, hs, lg_cmp_eq, show (0 : Int64) = lN 0 from rfl, pk_lEQ (by have := Wd_63 hle; omega) (by decide), Wd_z hle]
  have c2 : mX7_size4 y = 0 ↔ sz4 y = 0 := by
    rw [show mX7_size4 y = nI (sz4 y) from and_size4 y, show (0 : Int32) = nI 0 from rfl, nI_eq (sz4_lt y) (by decide)]
  rw [unit_eq]
  by_cases hz : sz4 y = 0
  · rw [if_pos (c1.mpr hz), if_pos (c2.mpr hz)]; exact narrow_wide h
  · rw [if_neg (fun q => hz (c1.mp q)), if_neg (fun q => hz (c2.mp q))]
    have e1 : ((4607182418800017408 : Int64) ||| (mX3_widened y &&& (-9223372036854775808 : Int64))) = mX3_widened (sgb4 (ng4 y) 1065353216) := by
      rw [Int64.or_comm, show (4607182418800017408 : Int64) = lN 4607182418800017408 from rfl, or_sgn _ (by decide), ng_wide hle, wd_sgb (by decide)]
      rfl
    have e2 : ((1065353216 : Int32) ||| (y &&& (-2147483648 : Int32))) = sgb4 (ng4 y) 1065353216 := by
      rw [Int32.or_comm, show (1065353216 : Int32) = nI 1065353216 from rfl]
      exact or_sgn4 y (by decide)
    rw [e1, e2]
    exact narrow_wide (by rw [(sgb4_sz (by decide)).1]; decide)
