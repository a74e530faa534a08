/-! SIMULATION of rim, column and row -/
theorem in_pt {k : Int32} (h : vp_in k 8) : ¬ mX6_isPoint k = 0 := by
  rw [vp_in_iff] at h
  have a0 : (0 : Int32).toInt = 0 := by decide
  have a8 : (8 : Int32).toInt = 8 := by decide
  unfold mX6_isPoint
  rw [if_neg (by rw [Int32.lt_iff_toInt_lt, a0]; omega), if_neg (by rw [Int32.le_iff_toInt_le, a8]; omega)]
  decide
theorem sel4 {a b : Int32} (ha : sz4 a < 2139095040) (hb : sz4 b < 2139095040) : sz4 (mX7_lesser4 a b) < 2139095040 ∧ sz4 (mX7_greater4 a b) < 2139095040 := by
  rw [mlesser4_ky, mgreater4_ky]
  constructor <;> split <;> assumption
theorem sel8 {a b : Int64} (ha : sz a < 9218868437227405312) (hb : sz b < 9218868437227405312) : sz (mX1_lesser a b) < 9218868437227405312 ∧ sz (mX1_greater a b) < 9218868437227405312 := by
  rw [lesser_ky, greater_ky]
  constructor <;> split <;> assumption
theorem rim_L {u : TS} {v : MS} (hR : RR u v) (w : Int32) : ∀ (n : Nat) (y : Int32) (i : Int32), LU 8 n i → sz4 y < 2139095040 → mX0_outermost_L u.2.2.2.2.1 w n (mX3_widened y) i = mX3_widened (mX7_rim_L v w n y i) ∧ sz4 (mX7_rim_L v w n y i) < 2139095040 := by
  intro n
  induction n with
  | zero => intro y i hm; exact hm.z.elim
  | succ n ih =>
    intro y i hm hy
    rw [mX0_outermost_L, mX7_rim_L]
    by_cases h8 : (8 : Int32) ≤ i
    · rw [if_pos h8, if_pos h8]; exact ⟨rfl, hy⟩
    · rw [if_neg h8, if_neg h8]
      have hin := LU.vin (N := 8) hm (B := 8) (by decide) h8 (by decide)
      have hup := LU.up (B := 8) (by decide) hm h8
      obtain ⟨e1, e2⟩ := hR.2.2.1 _ (in8 hin)
      rw [e1]
      unfold mX1_outer
      rw [greater_wd (by omega) (by omega), lesser_wd (by omega) (by omega)]
      by_cases h0 : w = 0
      · rw [if_pos h0, if_pos h0]; exact ih _ _ hup (sel4 hy e2).2
      · rw [if_neg h0, if_neg h0]; exact ih _ _ hup (sel4 hy e2).1
theorem sim_rim {u : TS} {v : MS} (hR : RR u v) (w : Int32) : mX6_rim u w = mX7_rim v w := by
  unfold mX6_rim mX7_rim
  by_cases h : w = 0 ∨ w = 1
  · rw [if_neg (fun q => (isEnd_iff w).mp q h), if_neg ((end_cond w).mp h).1, if_pos ((end_cond w).mp h).2]
    unfold mX0_outermost
    obtain ⟨e1, e2⟩ := hR.2.2.1 _ (show (0 : Int32).toNatClampNeg < 8 by decide)
    obtain ⟨g1, g2⟩ := rim_L hR w 8 _ 1 (by unfold LU; decide) e2
    rw [e1, g1]
    exact narrow_wide g2
  · rw [if_pos ((isEnd_iff w).mpr h)]
    by_cases g : w < 0
    · rw [if_pos g]
    · rw [if_neg g, if_neg (fun q => h ((end_cond w).mpr ⟨g, q⟩))]
theorem RR.step {u : TS} {v : MS} (hR : RR u v) : StepD u.2.2.2.1.2.2.1 := by
  have hA := hR.2.2.2.1
  rw [hA.2.2.1]; exact hA.2.2.2.2.2.2.2.2.1
theorem cellAt_le {u : TS} {v : MS} (hR : RR u v) {a b : Int64} (ha : sz a < 9218868437227405312) (hb : sz b < 9218868437227405312) (h : ky a ≤ ky b) : mX6_cellAt u a ≤ mX6_cellAt u b := by
  have hs := hR.step
  have key : ∀ {x : Int64}, sz x < 9218868437227405312 → mX6_cellAt u x = FP.d2i (mX7_whole (FP.ddiv x.toUInt64 u.2.2.2.1.2.2.1.toUInt64).toInt64 (nI 0)).toUInt64 := by
    intro x hx
    obtain ⟨q1, q2⟩ := quo_nn (a := x) (by omega) hs
    obtain ⟨w1, w2⟩ := whole_nn (way := 0) (by decide) q1
    rw [cell_eq (by omega) hs, whole32_eq (nan_of (by
      rw [show mX7_bits (FP.ddiv (mX7_of x) (mX7_of u.2.2.2.1.2.2.1)) = (FP.ddiv x.toUInt64 u.2.2.2.1.2.2.1.toUInt64).toInt64 from bits_eq (nan_of q1)]
      exact w1)), show mX7_bits (FP.ddiv (mX7_of x) (mX7_of u.2.2.2.1.2.2.1)) = (FP.ddiv x.toUInt64 u.2.2.2.1.2.2.1.toUInt64).toInt64 from bits_eq (nan_of q1)]
    rfl
  rw [key ha, key hb]
  exact cell_mono ha hb hs h
theorem column_L {u : TS} {v : MS} (hR : RR u v) (w : Int32) : ∀ (n : Nat) (x : Int64) (i : Int32), LU 8 n i → sz x < 9218868437227405312 → mX6_cellAt u (mX0_outermost_L u.2.2.2.1 w n x i) = mX7_column_L v w n (mX6_cellAt u x) i := by
  intro n
  induction n with
  | zero => intro x i hm; exact hm.z.elim
  | succ n ih =>
    intro x i hm hx
    rw [mX0_outermost_L, mX7_column_L]
    by_cases h8 : (8 : Int32) ≤ i
    · rw [if_pos h8, if_pos h8]
    · rw [if_neg h8, if_neg h8]
      have hin := LU.vin (N := 8) hm (B := 8) (by decide) h8 (by decide)
      have hup := LU.up (B := 8) (by decide) hm h8
      obtain ⟨e1, e2⟩ := hR.2.1 _ (in8 hin)
      have hc := cellAt_sim hR (in_pt hin)
      have hf : sz (u.2.2.2.1.2.2.2 i.toNatClampNeg) < 9218868437227405312 := by rw [e1]; exact e2
      generalize u.2.2.2.1.2.2.2 i.toNatClampNeg = y at *
      rw [← hc]
      unfold mX1_outer
      by_cases h0 : w = 0
      · rw [if_pos h0, if_pos h0, ih _ _ hup (sel8 hx hf).2, greater_ky]
        by_cases hk : ky y ≤ ky x
        · rw [if_pos hk, if_pos (cellAt_le hR hf hx hk)]
        · rw [if_neg hk]
          by_cases hl : mX6_cellAt u y ≤ mX6_cellAt u x
          · rw [if_pos hl, Int32.le_antisymm hl (cellAt_le hR hx hf (by omega))]
          · rw [if_neg hl]
      · rw [if_neg h0, if_neg h0, ih _ _ hup (sel8 hx hf).1, lesser_ky]
        by_cases hk : ky x ≤ ky y
        · rw [if_pos hk, if_pos (cellAt_le hR hx hf hk)]
        · rw [if_neg hk]
          by_cases hl : mX6_cellAt u x ≤ mX6_cellAt u y
          · rw [if_pos hl, Int32.le_antisymm hl (cellAt_le hR hf hx (by omega))]
          · rw [if_neg hl]
theorem sim_column {u : TS} {v : MS} (hR : RR u v) (w : Int32) : mX6_column u w = mX7_column v w := by
  unfold mX6_column mX7_column
  by_cases h : w = 0 ∨ w = 1
  · rw [if_neg (fun q => (isEnd_iff w).mp q h), if_neg ((end_cond w).mp h).1, if_pos ((end_cond w).mp h).2]
    unfold mX0_outermost
    obtain ⟨e1, e2⟩ := hR.2.1 _ (show (0 : Int32).toNatClampNeg < 8 by decide)
    rw [column_L hR w 8 _ 1 (by unfold LU; decide) (by rw [e1]; exact e2), cellAt_sim hR (k := 0) (by decide)]
  · rw [if_pos ((isEnd_iff w).mpr h)]
    by_cases g : w < 0
    · rw [if_pos g]
    · rw [if_neg g, if_neg (fun q => h ((end_cond w).mpr ⟨g, q⟩))]
