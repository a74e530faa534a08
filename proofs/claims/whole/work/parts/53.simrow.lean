/-! SIMULATION of row and far -/
theorem RR.grain {u : TS} {v : MS} (hR : RR u v) : StepF v.2.2.2.2.2.2.2.1 ∧ u.2.2.2.2.1.2.2.1 = mX3_widened v.2.2.2.2.2.2.2.1 := ⟨hR.2.2.2.1.2.2.2.2.2.2.2.2.2.2.2, hR.2.2.2.1.2.2.2.2.2.1⟩
theorem markAt_le {u : TS} {v : MS} (hR : RR u v) {a b : Int32} (ha : sz4 a < 2139095040) (hb : sz4 b < 2139095040) (h : ky4 a ≤ ky4 b) : mX6_markAt u (mX3_widened a) ≤ mX6_markAt u (mX3_widened b) := by
  obtain ⟨hs, hu⟩ := hR.grain
  have key : ∀ {y : Int32}, sz4 y < 2139095040 → mX6_markAt u (mX3_widened y) = FP.f2l (mX7_whole4 (FP.fdiv y.toUInt32 v.2.2.2.2.2.2.2.1.toUInt32).toInt32 (nI 2)).toUInt32 := by
    intro y hy
    obtain ⟨q1, q2⟩ := quo4_nn (y := y) (by omega) hs
    obtain ⟨w1, w2⟩ := whole4_nn (way := 2) (by decide) q1
    have hb4 : mX7_bits4 (FP.fdiv (mX7_of4 y) (mX7_of4 v.2.2.2.2.2.2.2.1)) = (FP.fdiv y.toUInt32 v.2.2.2.2.2.2.2.1.toUInt32).toInt32 := bits4_eq (nan4_of q1)
    rw [mark_eq hu (by omega) hs, hb4]
    exact whole64_eq (nan4_of w1)
  rw [key ha, key hb]
  exact mark_mono ha hb hs h
theorem row_L {u : TS} {v : MS} (hR : RR u v) (w : Int32) : ∀ (n : Nat) (x : Int32) (i : Int32), LU 8 n i → sz4 x < 2139095040 → mX6_markAt u (mX0_outermost_L u.2.2.2.2.1 w n (mX3_widened x) i) = mX7_row_L v w n (mX6_markAt u (mX3_widened x)) i := by
  intro n
  induction n with
  | zero => intro x i hm; exact hm.z.elim
  | succ n ih =>
    intro x i hm hx
    rw [mX0_outermost_L, mX7_row_L]
    by_cases h8 : (8 : Int32) ≤ i
    · rw [if_pos h8, if_pos h8]
    · rw [if_neg h8, if_neg h8]
      have hin := LU.vin (N := 8) hm (B := 8) (by decide) h8 (by decide)
      have hup := LU.up (B := 8) (by decide) hm h8
      obtain ⟨e1, e2⟩ := hR.2.2.1 _ (in8 hin)
      have hc := markAt_sim hR (in_pt hin)
      rw [e1] at hc
      rw [e1, ← hc]
      generalize v.2.1 i.toNatClampNeg = y at *
      unfold mX1_outer
      rw [greater_wd (by omega) (by omega), lesser_wd (by omega) (by omega)]
      by_cases h0 : w = 0
      · rw [if_pos h0, if_pos h0, ih _ _ hup (sel4 hx e2).2, mgreater4_ky, ]
        by_cases hk : ky4 y ≤ ky4 x
        · rw [if_pos hk, if_pos (by rw [lg_cmp_le]; exact markAt_le hR e2 hx hk)]
        · rw [if_neg hk]
          by_cases hl : lg_cmp (mX6_markAt u (mX3_widened y)) (mX6_markAt u (mX3_widened x)) ≤ 0
          · rw [if_pos hl]
            rw [lg_cmp_le] at hl
            rw [Int64.le_antisymm hl (markAt_le hR hx e2 (by omega))]
          · rw [if_neg hl]
      · rw [if_neg h0, if_neg h0, ih _ _ hup (sel4 hx e2).1, mlesser4_ky]
        by_cases hk : ky4 x ≤ ky4 y
        · rw [if_pos hk, if_pos (by rw [lg_cmp_ge]; exact markAt_le hR hx e2 hk)]
        · rw [if_neg hk]
          by_cases hl : 0 ≤ lg_cmp (mX6_markAt u (mX3_widened y)) (mX6_markAt u (mX3_widened x))
          · rw [if_pos hl]
            rw [lg_cmp_ge] at hl
            rw [Int64.le_antisymm hl (markAt_le hR e2 hx (by omega))]
          · rw [if_neg hl]
theorem sim_row {u : TS} {v : MS} (hR : RR u v) (w : Int32) : mX6_row u w = mX7_row v w := by
  unfold mX6_row mX7_row
  by_cases h : w = 0 ∨ w = 1
  · rw [if_neg (fun q => (isEnd_iff w).mp q h), if_neg ((end_cond w).mp h).1, if_pos ((end_cond w).mp h).2]
    unfold mX0_outermost
    obtain ⟨e1, e2⟩ := hR.2.2.1 _ (show (0 : Int32).toNatClampNeg < 8 by decide)
    have hc := markAt_sim hR (k := 0) (by decide)
    rw [e1] at hc
    rw [e1, row_L hR w 8 _ 1 (by unfold LU; decide) e2, hc]
  · rw [if_pos ((isEnd_iff w).mpr h)]
    by_cases g : w < 0
    · rw [if_pos g]
    · rw [if_neg g, if_neg (fun q => h ((end_cond w).mpr ⟨g, q⟩))]
/-- differences of finite numbers are numbers -/
theorem sub_nn {a b : Int64} (ha : sz a < 9218868437227405312) (hb : sz b < 9218868437227405312) : FP.dIsNaN (FP.dsub a.toUInt64 b.toUInt64) = false := by
  have h1 : FP.Core.DFin a.toUInt64 := by rw [FP.Core.fin_bits]; exact ha
  have h2 : FP.Core.DFin b.toUInt64 := by rw [FP.Core.fin_bits]; exact hb
  exact FP.Core.dsub_out h1.notNaN h2
theorem sub4_nn {a b : Int32} (ha : sz4 a < 2139095040) (hb : sz4 b < 2139095040) : FP.fIsNaN (FP.fsub a.toUInt32 b.toUInt32) = false := by
  have h1 : FP.Core.FFin a.toUInt32 := by rw [FP.Core.fin_bits32]; exact ha
  have h2 : FP.Core.FFin b.toUInt32 := by rw [FP.Core.fin_bits32]; exact hb
  exact FP.Core.fsub_out h1.notNaN h2
/-- the distance of two points, as a size -/
def dst (v : MS) (k j : Int32) : Nat := max (mg (FP.dsub (v.1 k.toNatClampNeg).toUInt64 (v.1 j.toNatClampNeg).toUInt64)) (Wd (sz4 (FP.fsub (v.2.1 k.toNatClampNeg).toUInt32 (v.2.1 j.toNatClampNeg).toUInt32).toInt32))
theorem dist_az {u : TS} {v : MS} (hR : RR u v) {k j : Int32} (hk : vp_in k 8) (hj : vp_in j 8) : Az (mX6_distance u k j) ∧ mg (mX6_distance u k j) = dst v k j := by
  obtain ⟨a1, a2⟩ := hR.2.1 _ (in8 hk)
  obtain ⟨b1, b2⟩ := hR.2.1 _ (in8 hj)
  obtain ⟨c1, c2⟩ := hR.2.2.1 _ (in8 hk)
  obtain ⟨d1, d2⟩ := hR.2.2.1 _ (in8 hj)
  unfold mX6_distance dst
  rw [a1, b1, c1, d1]
  obtain ⟨p1, p2⟩ := apart_w (u := u.2.2.2.1) (by omega) (by omega) (sub_nn a2 b2)
  obtain ⟨q1, q2⟩ := apart_h (u := u.2.2.2.2.1) (by omega) (by omega) (sub4_nn c2 d2)
  have hc := az_lt p1 q1 .l
  rw [p2, q2] at hc
  split
  · rename_i h
    have := hc.mp h
    refine ⟨q1, ?_⟩
    rw [q2]; omega
  · rename_i h
    have : ¬ _ := fun q => h (hc.mpr q)
    refine ⟨p1, ?_⟩
    rw [p2]; omega
