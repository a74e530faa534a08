section
/-! WHAT THE CONTRACTS ASK, out of the relation -/
theorem snl {a : Int64} (h : sz a ≤ 9218868437227405312) : vn_snl2d a = false := by
  unfold vn_snl2d
  rw [Bool.and_eq_false_iff]
  left
  rw [decide_eq_false_iff_not, gt_iff_lt, UInt64.lt_iff_toNat_lt, UInt64.toNat_and, show (0x7fffffffffffffff : UInt64).toNat = 2 ^ 63 - 1 from rfl, Nat.and_two_pow_sub_one_eq_mod, show (0x7ff0000000000000 : UInt64).toNat = 9218868437227405312 from rfl]
  unfold sz at h
  omega
theorem sni {y : Int32} (h : sz4 y ≤ 2139095040) : vn_sni2f y = false := by
  unfold vn_sni2f
  rw [Bool.and_eq_false_iff]
  left
  rw [decide_eq_false_iff_not, gt_iff_lt, UInt32.lt_iff_toNat_lt, UInt32.toNat_and, show (0x7fffffff : UInt32).toNat = 2 ^ 31 - 1 from rfl, Nat.and_two_pow_sub_one_eq_mod, show (0x7f800000 : UInt32).toNat = 2139095040 from rfl]
  unfold sz4 at h
  omega
variable {u : TS} {v : MS}
theorem RR.hn (hR : RR u v) : vp_in u.2.2.2.2.2.1.1 16 := by
  obtain ⟨n, p, h1, h2, h3, h4, h5, h6, h7⟩ := hR.2.2.2.2.2
  rw [h4]; exact vp_in_nI h2 (by decide)
theorem RR.ht (hR : RR u v) : vp_in v.2.2.2.2.2.2.2.2.2.2.2.2.2.1 17 := by
  obtain ⟨n, p, h1, h2, h3, h4, h5, h6, h7⟩ := hR.2.2.2.2.2
  rw [h3]; exact vp_in_nI (by omega) (by decide)
theorem RR.hsx (hR : RR u v) : ∀ i : Int32, vp_in i 8 → vn_snl2d (v.1 i.toNatClampNeg) = false := fun i h => snl (Nat.le_of_lt (hR.2.1 _ (in8 h)).2)
theorem RR.hsy (hR : RR u v) : ∀ i : Int32, vp_in i 8 → vn_sni2f (v.2.1 i.toNatClampNeg) = false := fun i h => sni (Nat.le_of_lt (hR.2.2.1 _ (in8 h)).2)
theorem RR.vst (hR : RR u v) : StepD v.2.2.2.2.1 := hR.2.2.2.1.2.2.2.2.2.2.2.2.1
theorem StepD.nn {s : Int64} (h : StepD s) : sz s ≤ 9218868437227405312 := by
  obtain ⟨h1, h2⟩ := h
  unfold Ps at h1
  unfold sz
  omega
theorem RR.hst (hR : RR u v) : vn_snl2d v.2.2.2.2.1 = false := snl hR.vst.nn
theorem RR.hgr (hR : RR u v) : vn_sni2f v.2.2.2.2.2.2.2.1 = false := sni hR.grain.1.nn
theorem q6 {a s : Int64} (ha : sz a ≤ 9218868437227405312) (hs : StepD s) : FP.dIsNaN (FP.ddiv (mX1_valueOfSize a) (mX1_valueOfSize s)) = false := by
  rw [vos_all ha, hs.vos]
  exact nan_le (div_le hs.1 hs.2 (by rw [size_un ha]; exact ha))
theorem q64 {y g : Int32} (hy : sz4 y ≤ 2139095040) (hs : StepF g) : FP.fIsNaN (FP.fdiv (FP.d2f (mX1_valueOfSize (mX3_widened y))) (FP.d2f (mX1_valueOfSize (mX3_widened g)))) = false := by
  rw [vos_wd hy, hs.vos]
  exact nan4_le (fdiv_le hs.1 hs.2 (by rw [size4_un]; exact hy))
theorem RR.mv6w (hR : RR u v) (a0 : Int32) (a1 : Int64) : vp_in a0 8 → mX1_isNone a1 = 0 → FP.dIsNaN (FP.dadd (mX1_value (u.2.2.2.1.2.2.2 a0.toNatClampNeg)) (mX1_value a1)) = false := by
  intro h1 h2
  obtain ⟨x1, x2⟩ := hR.2.1 _ (in8 h1)
  have h3 := (isNone_iff a1).mp (show mX7_isNone a1 = 0 from h2)
  rw [x1, value_eq (Nat.le_of_lt x2), value_eq h3]
  exact add_nn x2 h3
theorem RR.mv6h (hR : RR u v) (a0 a2 : Int32) : vp_in a0 8 → mX1_isNone (mX3_widened a2) = 0 → FP.fIsNaN (FP.fadd (FP.d2f (mX1_value (u.2.2.2.2.1.2.2.2 a0.toNatClampNeg))) (FP.d2f (mX1_value (mX3_widened a2)))) = false := by
  intro h1 h2
  obtain ⟨y1, y2⟩ := hR.2.2.1 _ (in8 h1)
  have h3 := (none4_iff a2).mp ((none_wide a2).mp h2)
  rw [y1, d2f_wd (Nat.le_of_lt y2), d2f_wd h3]
  exact add4_nn y2 h3
theorem RR.dx7 (a1 : Int64) : mX7_isNone a1 = 0 → vn_snl2d a1 = false := fun h => snl ((isNone_iff a1).mp h)
theorem RR.dy7 (a2 : Int32) : mX7_isNone4 a2 = 0 → vn_sni2f a2 = false := fun h => sni ((none4_iff a2).mp h)
theorem RR.mv7w (hR : RR u v) (a0 : Int32) (a1 : Int64) : vp_in a0 8 → mX7_isNone a1 = 0 → FP.dIsNaN (FP.dadd (mX7_of (v.1 a0.toNatClampNeg)) (mX7_of a1)) = false :=
  fun h1 h2 => add_nn (hR.2.1 _ (in8 h1)).2 ((isNone_iff a1).mp h2)
theorem RR.mv7h (hR : RR u v) (a0 a2 : Int32) : vp_in a0 8 → mX7_isNone4 a2 = 0 → FP.fIsNaN (FP.fadd (mX7_of4 (v.2.1 a0.toNatClampNeg)) (mX7_of4 a2)) = false :=
  fun h1 h2 => add4_nn (hR.2.2.1 _ (in8 h1)).2 ((none4_iff a2).mp h2)
theorem RR.dW (hR : RR u v) : ∀ i : Int32, vp_in i 8 → FP.dIsNaN (FP.ddiv (mX1_valueOfSize (u.2.2.2.1.2.2.2 i.toNatClampNeg)) (mX1_valueOfSize u.2.2.2.1.2.2.1)) = false := by
  intro i h
  obtain ⟨x1, x2⟩ := hR.2.1 _ (in8 h)
  rw [x1]
  exact q6 (Nat.le_of_lt x2) hR.step
theorem RR.dH (hR : RR u v) : ∀ i : Int32, vp_in i 8 → FP.fIsNaN (FP.fdiv (FP.d2f (mX1_valueOfSize (u.2.2.2.2.1.2.2.2 i.toNatClampNeg))) (FP.d2f (mX1_valueOfSize u.2.2.2.2.1.2.2.1))) = false := by
  intro i h
  obtain ⟨y1, y2⟩ := hR.2.2.1 _ (in8 h)
  obtain ⟨g1, g2⟩ := hR.grain
  rw [y1, g2]
  exact q64 (Nat.le_of_lt y2) g1
theorem way_of {w : Int32} (h : ¬ mX5_isWay w = 0) : ∃ t, t ≤ 3 ∧ w = nI t := by
  unfold mX5_isWay at h
  by_cases c1 : w < 0
  · rw [if_pos c1] at h; exact absurd rfl h
  · rw [if_neg c1] at h
    by_cases c2 : (3 : Int32) < w
    · rw [if_pos c2] at h; exact absurd rfl h
    · obtain ⟨t, ht, e⟩ := nI_of2 (n := 3) (by decide) c1 (show w ≤ 3 from by rw [Int32.lt_iff_toInt_lt] at c2; rw [Int32.le_iff_toInt_le]; omega)
      exact ⟨t, ht, e⟩
theorem RR.sn6w (hR : RR u v) (a0 a1 : Int32) : vp_in a0 8 → ¬ mX5_isWay a1 = 0 → FP.dIsNaN (FP.dmul (mX1_valueOfSize (mX0_wholeSteps_w u.2.2.2.1 (u.2.2.2.1.2.2.2 a0.toNatClampNeg) a1)) (mX1_valueOfSize u.2.2.2.1.2.2.1)) = false := by
  intro h1 h2
  obtain ⟨t, ht, rfl⟩ := way_of h2
  obtain ⟨x1, x2⟩ := hR.2.1 _ (in8 h1)
  have hs := hR.step
  rw [x1, steps_w ht (Nat.le_of_lt x2) hs]
  obtain ⟨q1, q2⟩ := quo_nn (Nat.le_of_lt x2) hs
  obtain ⟨w1, w2⟩ := whole_nn ht q1
  rw [vos_all w1, hs.vos]
  exact nan_le (mul_le hs.1 hs.2 (by rw [size_un w1]; exact w1))
theorem RR.sn6h (hR : RR u v) (a0 a1 : Int32) : vp_in a0 8 → ¬ mX5_isWay a1 = 0 → FP.fIsNaN (FP.fmul (FP.d2f (mX1_valueOfSize (mX0_wholeSteps_h u.2.2.2.2.1 (u.2.2.2.2.1.2.2.2 a0.toNatClampNeg) a1))) (FP.d2f (mX1_valueOfSize u.2.2.2.2.1.2.2.1))) = false := by
  intro h1 h2
  obtain ⟨t, ht, rfl⟩ := way_of h2
  obtain ⟨y1, y2⟩ := hR.2.2.1 _ (in8 h1)
  obtain ⟨hs, g2⟩ := hR.grain
  rw [y1, steps_h g2 ht (Nat.le_of_lt y2) hs]
  obtain ⟨q1, q2⟩ := quo4_nn (Nat.le_of_lt y2) hs
  obtain ⟨w1, w2⟩ := whole4_nn ht q1
  rw [g2, vos_wd w1, hs.vos]
  exact nan4_le (fmul_le hs.1 hs.2 (by rw [size4_un]; exact w1))
theorem RR.d7 (hR : RR u v) : ∀ i : Int32, vp_in i 8 → FP.dIsNaN (FP.ddiv (mX7_of (v.1 i.toNatClampNeg)) (mX7_of v.2.2.2.2.1)) = false := fun i h =>
  nan_of (quo_nn (Nat.le_of_lt (hR.2.1 _ (in8 h)).2) hR.vst).1
theorem RR.f7 (hR : RR u v) : ∀ i : Int32, vp_in i 8 → FP.fIsNaN (FP.fdiv (mX7_of4 (v.2.1 i.toNatClampNeg)) (mX7_of4 v.2.2.2.2.2.2.2.1)) = false := fun i h =>
  nan4_of (quo4_nn (Nat.le_of_lt (hR.2.2.1 _ (in8 h)).2) hR.grain.1).1
theorem RR.w7 (hR : RR u v) {t : Nat} (ht : t ≤ 3) (i : Int32) (h : vp_in i 8) : sz (mX7_whole (mX7_bits (FP.ddiv (mX7_of (v.1 i.toNatClampNeg)) (mX7_of v.2.2.2.2.1))) (nI t)) ≤ 9218868437227405312 := by
  rw [bits_eq (hR.d7 i h)]
  exact (whole_nn ht (quo_nn (Nat.le_of_lt (hR.2.1 _ (in8 h)).2) hR.vst).1).1
theorem RR.w74 (hR : RR u v) {t : Nat} (ht : t ≤ 3) (i : Int32) (h : vp_in i 8) : sz4 (mX7_whole4 (mX7_bits4 (FP.fdiv (mX7_of4 (v.2.1 i.toNatClampNeg)) (mX7_of4 v.2.2.2.2.2.2.2.1))) (nI t)) ≤ 2139095040 := by
  rw [bits4_eq (hR.f7 i h)]
  exact (whole4_nn ht (quo4_nn (Nat.le_of_lt (hR.2.2.1 _ (in8 h)).2) hR.grain.1).1).1
theorem RR.wx7 (hR : RR u v) (a0 a1 : Int32) : vp_in a0 8 → ¬ a1 < 0 → a1 ≤ (3 : Int32) → vn_snl2d (mX7_whole (mX7_bits (FP.ddiv (mX7_of (v.1 a0.toNatClampNeg)) (mX7_of v.2.2.2.2.1))) a1) = false := by
  intro h1 h2 h3
  obtain ⟨t, ht, rfl⟩ := nI_of2 (n := 3) (by decide) h2 h3
  exact snl (hR.w7 ht a0 h1)
theorem RR.wy7 (hR : RR u v) (a0 a1 : Int32) : vp_in a0 8 → ¬ a1 < 0 → a1 ≤ (3 : Int32) → vn_sni2f (mX7_whole4 (mX7_bits4 (FP.fdiv (mX7_of4 (v.2.1 a0.toNatClampNeg)) (mX7_of4 v.2.2.2.2.2.2.2.1))) a1) = false := by
  intro h1 h2 h3
  obtain ⟨t, ht, rfl⟩ := nI_of2 (n := 3) (by decide) h2 h3
  exact sni (hR.w74 ht a0 h1)
theorem RR.mx7 (hR : RR u v) (a0 a1 : Int32) : vp_in a0 8 → ¬ a1 < 0 → a1 ≤ (3 : Int32) → FP.dIsNaN (FP.dmul (mX7_of (mX7_whole (mX7_bits (FP.ddiv (mX7_of (v.1 a0.toNatClampNeg)) (mX7_of v.2.2.2.2.1))) a1)) (mX7_of v.2.2.2.2.1)) = false := by
  intro h1 h2 h3
  obtain ⟨t, ht, rfl⟩ := nI_of2 (n := 3) (by decide) h2 h3
  exact nan_of (mul_nn (hR.w7 ht a0 h1) hR.vst)
theorem RR.my7 (hR : RR u v) (a0 a1 : Int32) : vp_in a0 8 → ¬ a1 < 0 → a1 ≤ (3 : Int32) → FP.fIsNaN (FP.fmul (mX7_of4 (mX7_whole4 (mX7_bits4 (FP.fdiv (mX7_of4 (v.2.1 a0.toNatClampNeg)) (mX7_of4 v.2.2.2.2.2.2.2.1))) a1)) (mX7_of4 v.2.2.2.2.2.2.2.1)) = false := by
  intro h1 h2 h3
  obtain ⟨t, ht, rfl⟩ := nI_of2 (n := 3) (by decide) h2 h3
  exact nan4_of (mul4_nn (hR.w74 ht a0 h1) hR.grain.1)
theorem RR.w0 (hR : RR u v) : ∀ i : Int32, vp_in i 8 → vn_snl2d (mX7_whole (mX7_bits (FP.ddiv (mX7_of (v.1 i.toNatClampNeg)) (mX7_of v.2.2.2.2.1))) (0 : Int32)) = false := fun i h => snl (hR.w7 (t := 0) (by decide) i h)
theorem RR.w2 (hR : RR u v) : ∀ i : Int32, vp_in i 8 → vn_sni2f (mX7_whole4 (mX7_bits4 (FP.fdiv (mX7_of4 (v.2.1 i.toNatClampNeg)) (mX7_of4 v.2.2.2.2.2.2.2.1))) (2 : Int32)) = false := fun i h => sni (hR.w74 (t := 2) (by decide) i h)
theorem fin_inf {x : Int64} (h1 : mX7_isNone x = 0) (h2 : mX7_isInfinite x = 0) : sz x < 9218868437227405312 := by
  have a := (isNone_iff x).mp h1
  have b := (isInf_iff x).mp h2
  omega
theorem RR.sw1 (a1 : Int64) : mX1_isNone a1 = 0 → mX1_isInfinite a1 = 0 → FP.dIsNaN (FP.dadd (mX1_value a1) (mX1_value a1)) = false := by
  intro h1 h2
  have hx := fin_inf (show mX7_isNone a1 = 0 from h1) (show mX7_isInfinite a1 = 0 from h2)
  rw [value_eq (Nat.le_of_lt hx)]
  exact add_nn hx (Nat.le_of_lt hx)
theorem opp_fin {x : Int64} (h : sz x < 9218868437227405312) : sz (mX1_opposite x) < 9218868437227405312 := by
  rw [opp_sgb, (sgb_sz (sz_lt _)).1]; exact h
theorem RR.sw2' (hR : RR u v) (a0 : Int32) (a1 : Int64) (h1 : vp_in a0 8) (hx : sz a1 < 9218868437227405312) : FP.dIsNaN (FP.dadd (FP.dadd a1.toUInt64 a1.toUInt64).toInt64.toUInt64 (mX1_opposite (v.1 a0.toNatClampNeg)).toUInt64) = false := by
  obtain ⟨x1, x2⟩ := hR.2.1 _ (in8 h1)
  have of1 : FP.Core.DFin (mX1_opposite (v.1 a0.toNatClampNeg)).toUInt64 := by rw [FP.Core.fin_bits]; exact opp_fin x2
  exact FP.Core.dadd_out (add_nn hx (Nat.le_of_lt hx)) of1
theorem RR.sw2 (hR : RR u v) (a0 : Int32) (a1 : Int64) : vp_in a0 8 → mX1_isNone a1 = 0 → mX1_isInfinite a1 = 0 → FP.dIsNaN (FP.dadd (mX1_value (mX0_sum_w u.2.2.2.1 a1 a1)) (mX1_value (mX1_opposite (u.2.2.2.1.2.2.2 a0.toNatClampNeg)))) = false := by
  intro h1 h2 h3
  have hx := fin_inf (show mX7_isNone a1 = 0 from h2) (show mX7_isInfinite a1 = 0 from h3)
  obtain ⟨x1, x2⟩ := hR.2.1 _ (in8 h1)
  have n1 := add_nn hx (Nat.le_of_lt hx)
  rw [x1, sum_w_eq (Nat.le_of_lt hx) (Nat.le_of_lt hx) n1, value_eq (sz_of_nan n1), value_eq (Nat.le_of_lt (opp_fin x2))]
  exact hR.sw2' a0 a1 h1 hx
theorem RR.sw7 (a1 : Int64) : mX7_isNone a1 = 0 → mX7_isInfinite a1 = 0 → FP.dIsNaN (FP.dadd (mX7_of a1) (mX7_of a1)) = false := fun h1 h2 => add_nn (fin_inf h1 h2) (Nat.le_of_lt (fin_inf h1 h2))
theorem RR.sw72 (hR : RR u v) (a0 : Int32) (a1 : Int64) : vp_in a0 8 → mX7_isNone a1 = 0 → mX7_isInfinite a1 = 0 → FP.dIsNaN (FP.dsub (FP.dadd (mX7_of a1) (mX7_of a1)) (mX7_of (v.1 a0.toNatClampNeg))) = false := by
  intro h1 h2 h3
  have hx := fin_inf h2 h3
  obtain ⟨x1, x2⟩ := hR.2.1 _ (in8 h1)
  rw [show FP.dsub (FP.dadd (mX7_of a1) (mX7_of a1)) (mX7_of (v.1 a0.toNatClampNeg)) = FP.dadd (FP.dadd a1.toUInt64 a1.toUInt64).toInt64.toUInt64 (mX1_opposite (v.1 a0.toNatClampNeg)).toUInt64 from by
    rw [opp_dneg, un_toInt64, un_toInt64, FP.dneg_core (nan_of (by omega))]
    exact FP.Core.dsub_eq _ _]
  exact hR.sw2' a0 a1 h1 hx
theorem RR.st6 (hR : RR u v) : ∀ i g : Int32, vp_in i 8 → vp_in g 4 → mX1_isInfinite (u.2.2.2.2.2.2 g.toNatClampNeg) = 0 → FP.dIsNaN (FP.dsub (mX1_value (u.2.2.2.1.2.2.2 i.toNatClampNeg)) (mX1_value (u.2.2.2.2.2.2 g.toNatClampNeg))) = false := by
  intro i g h1 h2 h3
  obtain ⟨x1, x2⟩ := hR.2.1 _ (in8 h1)
  rcases hR.2.2.2.2.1 _ (in4 h2) with ⟨g1, g2⟩ | ⟨g1, g2, g3⟩
  · exact absurd g2 ((isInf_iff _).mp h3)
  · rw [x1, g2, value_eq (Nat.le_of_lt x2), value_eq (Nat.le_of_lt g3)]
    exact sub_nn x2 g3
theorem RR.gfin (hR : RR u v) (g : Int32) (h2 : vp_in g 4) (h3 : ¬ (v.2.2.2.2.2.2.2.2.2.1 g.toNatClampNeg) = 0) : sz (v.2.2.2.2.2.2.2.2.1 g.toNatClampNeg) < 9218868437227405312 := by
  rcases hR.2.2.2.2.1 _ (in4 h2) with ⟨g1, g2⟩ | ⟨g1, g2, g3⟩
  · exact absurd g1 h3
  · exact g3
theorem RR.sg7 (hR : RR u v) : ∀ g : Int32, vp_in g 4 → ¬ (v.2.2.2.2.2.2.2.2.2.1 g.toNatClampNeg) = 0 → vn_snl2d (v.2.2.2.2.2.2.2.2.1 g.toNatClampNeg) = false := fun g h1 h2 => snl (Nat.le_of_lt (hR.gfin g h1 h2))
theorem RR.st7 (hR : RR u v) (a0 : Int32) : ∀ g : Int32, vp_in a0 8 → vp_in g 4 → ¬ (v.2.2.2.2.2.2.2.2.2.1 g.toNatClampNeg) = 0 → FP.dIsNaN (FP.dsub (mX7_of (v.1 a0.toNatClampNeg)) (mX7_of (v.2.2.2.2.2.2.2.2.1 g.toNatClampNeg))) = false := fun g h0 h1 h2 => sub_nn (hR.2.1 _ (in8 h0)).2 (hR.gfin g h1 h2)
theorem RR.un6 (hR : RR u v) : vp_in (mX4_takeLatest u.2.2.2.2.2.1).1 16 ∧ vp_in ((mX4_takeLatest u.2.2.2.2.2.1).2.2.2.1 (mX4_takeLatest u.2.2.2.2.2.1).1.toNatClampNeg) 8 := by
  obtain ⟨n, p, h1, h2, h3, h4, h5, h6, h7⟩ := hR.2.2.2.2.2
  have e : (mX4_takeLatest u.2.2.2.2.2.1).1 = nI ((p + 15) % 16) := by
    show (u.2.2.2.2.2.1.1 + (16 : Int32) - (1 : Int32)) - (u.2.2.2.2.2.1.1 + (16 : Int32) - (1 : Int32)) / (16 : Int32) * (16 : Int32) = _
    rw [h4]; exact ring_down p h2
  rw [e]
  refine ⟨vp_in_nI (by omega) (by decide), ?_⟩
  show vp_in (u.2.2.2.2.2.1.2.2.1 (nI ((p + 15) % 16)).toNatClampNeg) 8
  rw [nI_clamp (by omega)]
  exact h6 _ (by omega)
theorem RR.un7 (hR : RR u v) (h0 : ¬ v.2.2.2.2.2.2.2.2.2.2.2.2.2.1 = 0) : vp_in (v.2.2.2.2.2.2.2.2.2.2.2.2.2.1 - (1 : Int32)) 17 ∧ vp_in (v.2.2.2.2.2.2.2.2.2.2.1 (v.2.2.2.2.2.2.2.2.2.2.2.2.2.1 - (1 : Int32)).toNatClampNeg) 8 := by
  obtain ⟨n, p, h1, h2, h3, h4, h5, h6, h7⟩ := hR.2.2.2.2.2
  have hn : n ≠ 0 := fun q => h0 (by rw [h3, q]; rfl)
  have e : v.2.2.2.2.2.2.2.2.2.2.2.2.2.1 - (1 : Int32) = nI (n - 1) := by
    rw [h3]
    have : ∀ m, m < 17 → m ≠ 0 → nI m - (1 : Int32) = nI (m - 1) := by decide +kernel
    exact this n (by omega) hn
  rw [e, nI_clamp (by omega)]
  refine ⟨vp_in_nI (by omega) (by decide), ?_⟩
  rw [← (h7 (n - 1) (by omega)).1]
  exact h6 _ (by omega)
theorem outer_fin (hR : RR u v) (w : Int32) : ∀ (n : Nat) (x : Int64) (i : Int32), LU 8 n i → sz x < 9218868437227405312 → sz (mX0_outermost_L u.2.2.2.1 w n x i) < 9218868437227405312 := by
  intro n
  induction n with
  | zero => intro x i hm; exact hm.z.elim
  | succ n ih =>
    intro x i hm hx
    rw [mX0_outermost_L]
    by_cases h8 : (8 : Int32) ≤ i
    · rw [if_pos h8]; exact hx
    · rw [if_neg h8]
      have hin := LU.vin (N := 8) hm (B := 8) (by decide) h8 (by decide)
      have hup := LU.up (B := 8) (by decide) hm h8
      obtain ⟨e1, e2⟩ := hR.2.1 _ (in8 hin)
      refine ih _ _ hup ?_
      rw [e1]
      unfold mX1_outer
      split
      · exact (sel8 hx e2).2
      · exact (sel8 hx e2).1
theorem RR.co6 (hR : RR u v) (a0 : Int32) : FP.dIsNaN (FP.ddiv (mX1_valueOfSize (mX0_outermost u.2.2.2.1 a0)) (mX1_valueOfSize u.2.2.2.1.2.2.1)) = false := by
  obtain ⟨e1, e2⟩ := hR.2.1 0 (by decide)
  refine q6 (Nat.le_of_lt ?_) hR.step
  exact outer_fin hR a0 8 _ _ (by unfold LU; decide) (by show sz (u.2.2.2.1.2.2.2 0) < _; rw [e1]; exact e2)
theorem RR.ro6 (hR : RR u v) (a0 : Int32) : FP.fIsNaN (FP.fdiv (FP.d2f (mX1_valueOfSize (mX0_outermost u.2.2.2.2.1 a0))) (FP.d2f (mX1_valueOfSize u.2.2.2.2.1.2.2.1))) = false := by
  obtain ⟨e1, e2⟩ := hR.2.2.1 0 (by decide)
  obtain ⟨g1, g2⟩ := hR.grain
  have h := rim_L hR a0 8 (v.2.1 0) (1 : Int32) (by unfold LU; decide) e2
  have e : mX0_outermost u.2.2.2.2.1 a0 = mX3_widened (mX7_rim_L v a0 8 (v.2.1 0) (1 : Int32)) := by
    rw [← h.1, ← e1]; rfl
  rw [e, g2]
  exact q64 (Nat.le_of_lt h.2) g1
theorem RR.fW6 (hR : RR u v) : ∀ i j : Int32, vp_in i 8 → vp_in j 8 → FP.dIsNaN (FP.dsub (mX1_value (u.2.2.2.1.2.2.2 i.toNatClampNeg)) (mX1_value (u.2.2.2.1.2.2.2 j.toNatClampNeg))) = false := by
  intro i j h1 h2
  obtain ⟨x1, x2⟩ := hR.2.1 _ (in8 h1)
  obtain ⟨x3, x4⟩ := hR.2.1 _ (in8 h2)
  rw [x1, x3, value_eq (Nat.le_of_lt x2), value_eq (Nat.le_of_lt x4)]
  exact sub_nn x2 x4
theorem RR.fH6 (hR : RR u v) : ∀ i j : Int32, vp_in i 8 → vp_in j 8 → FP.fIsNaN (FP.fsub (FP.d2f (mX1_value (u.2.2.2.2.1.2.2.2 i.toNatClampNeg))) (FP.d2f (mX1_value (u.2.2.2.2.1.2.2.2 j.toNatClampNeg)))) = false := by
  intro i j h1 h2
  obtain ⟨x1, x2⟩ := hR.2.2.1 _ (in8 h1)
  obtain ⟨x3, x4⟩ := hR.2.2.1 _ (in8 h2)
  rw [x1, x3, d2f_wd (Nat.le_of_lt x2), d2f_wd (Nat.le_of_lt x4)]
  exact sub4_nn x2 x4
theorem RR.fd7 (hR : RR u v) : ∀ i j : Int32, vp_in i 8 → vp_in j 8 → FP.dIsNaN (FP.dsub (mX7_of (v.1 i.toNatClampNeg)) (mX7_of (v.1 j.toNatClampNeg))) = false := fun i j h1 h2 => sub_nn (hR.2.1 _ (in8 h1)).2 (hR.2.1 _ (in8 h2)).2
theorem RR.ff7 (hR : RR u v) : ∀ i j : Int32, vp_in i 8 → vp_in j 8 → FP.fIsNaN (FP.fsub (mX7_of4 (v.2.1 i.toNatClampNeg)) (mX7_of4 (v.2.1 j.toNatClampNeg))) = false := fun i j h1 h2 => sub4_nn (hR.2.2.1 _ (in8 h1)).2 (hR.2.2.1 _ (in8 h2)).2
theorem RR.fz7 (hR : RR u v) : ∀ i j : Int32, vp_in i 8 → vp_in j 8 → sz4 (mX7_size4 (mX7_bits4 (FP.fsub (mX7_of4 (v.2.1 i.toNatClampNeg)) (mX7_of4 (v.2.1 j.toNatClampNeg))))) ≤ 2139095040 := by
  intro i j h1 h2
  have n := hR.ff7 i j h1 h2
  rw [bits4_eq n, msize4]
  have h := sz4_of_nan n
  rw [sz4_nI (by omega)]
  exact h
theorem RR.fb7 (hR : RR u v) : ∀ i j : Int32, vp_in i 8 → vp_in j 8 → vn_sni2f (mX7_size4 (mX7_bits4 (FP.fsub (mX7_of4 (v.2.1 i.toNatClampNeg)) (mX7_of4 (v.2.1 j.toNatClampNeg))))) = false := fun i j h1 h2 => sni (hR.fz7 i j h1 h2)
theorem RR.fn7 (hR : RR u v) : ∀ i j : Int32, vp_in i 8 → vp_in j 8 → FP.fIsNaN (mX7_of4 (mX7_size4 (mX7_bits4 (FP.fsub (mX7_of4 (v.2.1 i.toNatClampNeg)) (mX7_of4 (v.2.1 j.toNatClampNeg)))))) = false := fun i j h1 h2 => nan4_of (hR.fz7 i j h1 h2)
end
