/-! CELLS AND MARKS -/
theorem whole32_eq {d : UInt64} (h : FP.dIsNaN d = false) : mX7_whole32 d = FP.d2i d := by
  unfold mX7_whole32
  have n1 : FP.dIsNaN 4746794007244308480 = false := by decide +kernel
  have n2 : FP.dIsNaN 13970166044103278592 = false := by decide +kernel
  obtain ⟨o1, e1⟩ := FP.Core.dcmp_of_notNaN h n1
  obtain ⟨o2, e2⟩ := FP.Core.dcmp_of_notNaN h n2
  have e1' : FP.dcmp d 4746794007244308480 = some o1 := e1
  have e2' : FP.dcmp d 13970166044103278592 = some o2 := e2
  rw [e1', e2']
  cases o1 with
  | lt =>
    rw [if_pos (show Op.cmpValue (some Ordering.lt) .l < 0 from by decide)]
    cases o2 with
    | lt => rw [if_neg (show ¬ 0 < Op.cmpValue (some Ordering.lt) .g from by decide)]; exact (FP.Core.d2i_lo (Or.inl e2)).symm
    | eq => rw [if_neg (show ¬ 0 < Op.cmpValue (some Ordering.eq) .g from by decide)]; exact (FP.Core.d2i_lo (Or.inr e2)).symm
    | gt => rw [if_pos (show 0 < Op.cmpValue (some Ordering.gt) .g from by decide)]
  | eq => rw [if_neg (show ¬ Op.cmpValue (some Ordering.eq) .l < 0 from by decide)]; exact (FP.Core.d2i_hi (Or.inr e1)).symm
  | gt => rw [if_neg (show ¬ Op.cmpValue (some Ordering.gt) .l < 0 from by decide)]; exact (FP.Core.d2i_hi (Or.inl e1)).symm
theorem whole64_eq {d : UInt32} (h : FP.fIsNaN d = false) : mX7_whole64 d = FP.f2l d := by
  unfold mX7_whole64
  have n1 : FP.fIsNaN 1593835520 = false := by decide +kernel
  have n2 : FP.fIsNaN 3741319168 = false := by decide +kernel
  obtain ⟨o1, e1⟩ := FP.Core.fcmp_of_notNaN h n1
  obtain ⟨o2, e2⟩ := FP.Core.fcmp_of_notNaN h n2
  have e1' : FP.fcmp d 1593835520 = some o1 := e1
  have e2' : FP.fcmp d 3741319168 = some o2 := e2
  rw [e1', e2']
  cases o1 with
  | lt =>
    rw [if_pos (show Op.cmpValue (some Ordering.lt) .l < 0 from by decide)]
    cases o2 with
    | lt => rw [if_neg (show ¬ 0 < Op.cmpValue (some Ordering.lt) .g from by decide)]; exact (FP.Core.f2l_lo (Or.inl e2)).symm
    | eq => rw [if_neg (show ¬ 0 < Op.cmpValue (some Ordering.eq) .g from by decide)]; exact (FP.Core.f2l_lo (Or.inr e2)).symm
    | gt => rw [if_pos (show 0 < Op.cmpValue (some Ordering.gt) .g from by decide)]
  | eq => rw [if_neg (show ¬ Op.cmpValue (some Ordering.eq) .l < 0 from by decide)]; exact (FP.Core.f2l_hi (Or.inr e1)).symm
  | gt => rw [if_neg (show ¬ Op.cmpValue (some Ordering.gt) .l < 0 from by decide)]; exact (FP.Core.f2l_hi (Or.inl e1)).symm
theorem d2l_wide {V : Int32} (h : sz4 V ≤ 2139095040) : FP.d2l (mX3_widened V).toUInt64 = FP.f2l V.toUInt32 := by
  have hn4 : FP.Core.val32 V.toUInt32 ≠ .nan := (FP.Core.notNaN_iff32 _).mp (nan4_of h)
  have hn : FP.Core.val64 (mX3_widened V).toUInt64 ≠ .nan := (FP.Core.notNaN_iff _).mp (nan_of (wd_nn h))
  rcases Nat.eq_or_lt_of_le h with e | hlt
  · have hv := sgb4_self V
    rw [e] at hv
    rw [hv]
    cases ng4 V <;> decide +kernel
  · rw [← Int64.toInt_inj]
    show (FP.Core.d2l (mX3_widened V).toUInt64).toInt = (FP.Core.f2l V.toUInt32).toInt
    rw [FP.Core.d2l_val hn, FP.Core.f2l_val hn4, FP.Core.sgn_bits hn, FP.Core.sgn_bits32 hn4, FP.Core.zmag_bits hn, FP.Core.zmag_bits32 hn4]
    rw [show (mX3_widened V).toUInt64.toNat % 2 ^ 63 = sz (mX3_widened V) from rfl, show V.toUInt32.toNat % 2 ^ 31 = sz4 V from rfl, sz_wide h, (Wd_fin hlt).2]
    rw [show FP.Core.one64 = 2 ^ 149 * 2 ^ 925 from by unfold FP.Core.one64; rw [← Nat.pow_add], show FP.Core.one32 = 2 ^ 149 from rfl, Nat.mul_div_mul_right _ _ (Nat.two_pow_pos _)]
    have := sg_wide h
    rw [show decide (2 ^ 63 ≤ (mX3_widened V).toUInt64.toNat) = decide (2 ^ 31 ≤ V.toUInt32.toNat) from decide_eq_decide.mpr (by omega)]
theorem cell_eq {u : TS} {x : Int64} (hx : sz x ≤ 9218868437227405312) (hs : StepD u.2.2.2.1.2.2.1) : mX6_cellAt u x = mX7_whole32 (mX7_of (mX7_whole (mX7_bits (FP.ddiv (mX7_of x) (mX7_of u.2.2.2.1.2.2.1))) (0 : Int32))) := by
  have h1 := steps_w (u := u.2.2.2.1) (a := x) (way := 0) (by decide) hx hs
  obtain ⟨q1, q2⟩ := quo_nn hx hs
  obtain ⟨w1, w2⟩ := whole_nn (way := 0) (by decide) q1
  unfold mX6_cellAt
  rw [show mX0_wholeSteps_w u.2.2.2.1 x (0 : Int32) = _ from h1, value_eq w1]
  have hb : mX7_bits (FP.ddiv (mX7_of x) (mX7_of u.2.2.2.1.2.2.1)) = (FP.ddiv x.toUInt64 u.2.2.2.1.2.2.1.toUInt64).toInt64 := bits_eq (nan_of q1)
  rw [hb]
  exact (whole32_eq (nan_of w1)).symm
theorem mark_eq {u : TS} {y g : Int32} (hu : u.2.2.2.2.1.2.2.1 = mX3_widened g) (hy : sz4 y ≤ 2139095040) (hs : StepF g) : mX6_markAt u (mX3_widened y) = mX7_whole64 (mX7_of4 (mX7_whole4 (mX7_bits4 (FP.fdiv (mX7_of4 y) (mX7_of4 g))) (2 : Int32))) := by
  have h1 := steps_h (u := u.2.2.2.2.1) (way := 2) hu (by decide) hy hs
  obtain ⟨q1, q2⟩ := quo4_nn hy hs
  obtain ⟨w1, w2⟩ := whole4_nn (way := 2) (by decide) q1
  unfold mX6_markAt
  rw [show mX0_wholeSteps_h u.2.2.2.2.1 (mX3_widened y) (2 : Int32) = _ from h1, value_eq (wd_nn w1), d2l_wide w1]
  have hb : mX7_bits4 (FP.fdiv (mX7_of4 y) (mX7_of4 g)) = (FP.fdiv y.toUInt32 g.toUInt32).toInt32 := bits4_eq (nan4_of q1)
  rw [hb]
  exact (whole64_eq (nan4_of w1)).symm
