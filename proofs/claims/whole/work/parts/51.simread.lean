/-! SIMULATION of the reading methods -/
theorem cellAt_sim {u : TS} {v : MS} (hR : RR u v) {k : Int32} (h : ¬ mX6_isPoint k = 0) : mX6_cellAt u (u.2.2.2.1.2.2.2 k.toNatClampNeg) = mX7_cell v k := by
  obtain ⟨h1, h2⟩ := hR.2.1 _ (in8 (pt_in h))
  have hA := hR.2.2.2.1
  have hs : StepD u.2.2.2.1.2.2.1 := by rw [hA.2.2.1]; exact hA.2.2.2.2.2.2.2.2.1
  unfold mX7_cell
  rw [← isP_eq, if_neg h, h1, cell_eq (by omega) hs, hA.2.2.1]
theorem markAt_sim {u : TS} {v : MS} (hR : RR u v) {k : Int32} (h : ¬ mX6_isPoint k = 0) : mX6_markAt u (u.2.2.2.2.1.2.2.2 k.toNatClampNeg) = mX7_mark v k := by
  obtain ⟨h1, h2⟩ := hR.2.2.1 _ (in8 (pt_in h))
  have hA := hR.2.2.2.1
  unfold mX7_mark
  rw [← isP_eq, if_neg h, h1, mark_eq hA.2.2.2.2.2.1 (by omega) hA.2.2.2.2.2.2.2.2.2.2.2]
theorem sim_cell {u : TS} {v : MS} (hR : RR u v) (k : Int32) : mX6_cell u k = mX7_cell v k := by
  unfold mX6_cell
  by_cases h : mX6_isPoint k = 0
  · rw [if_pos h]
    unfold mX7_cell
    rw [← isP_eq, if_pos h]
  · rw [if_neg h]; exact cellAt_sim hR h
theorem sim_mark {u : TS} {v : MS} (hR : RR u v) (k : Int32) : mX6_mark u k = mX7_mark v k := by
  unfold mX6_mark
  by_cases h : mX6_isPoint k = 0
  · rw [if_pos h]
    unfold mX7_mark
    rw [← isP_eq, if_pos h]
  · rw [if_neg h]; exact markAt_sim hR h
theorem sim_gap {u : TS} {v : MS} (hR : RR u v) (k j : Int32) : mX6_gap u k j = mX7_gap v k j := by
  unfold mX6_gap mX7_gap
  rw [← isP_eq, ← isP_eq]
  by_cases h : mX6_isPoint k = 0
  · rw [if_pos h, if_pos h]
  · rw [if_neg h, if_neg h]
    by_cases h2 : mX6_isPoint j = 0
    · rw [if_pos h2, if_pos h2]
    · rw [if_neg h2, if_neg h2, cellAt_sim hR h, cellAt_sim hR h2, Int32.zero_sub]
theorem sim_rise {u : TS} {v : MS} (hR : RR u v) (k j : Int32) : mX6_rise u k j = mX7_rise v k j := by
  unfold mX6_rise mX7_rise
  rw [← isP_eq, ← isP_eq]
  by_cases h : mX6_isPoint k = 0
  · rw [if_pos h, if_pos h]
  · rw [if_neg h, if_neg h]
    by_cases h2 : mX6_isPoint j = 0
    · rw [if_pos h2, if_pos h2]
    · rw [if_neg h2, if_neg h2, markAt_sim hR h, markAt_sim hR h2]
      generalize mX7_mark v k - mX7_mark v j = d
      by_cases g : 0 < d
      · rw [if_pos g, if_pos (by rw [lg_cmp_ge, Int64.le_iff_toInt_le]; rw [Int64.lt_iff_toInt_lt] at g; omega)]
      · rw [if_neg g]
        by_cases g2 : 0 ≤ lg_cmp d 0
        · rw [if_pos g2]
          rw [lg_cmp_ge, Int64.le_iff_toInt_le] at g2
          rw [Int64.lt_iff_toInt_lt] at g
          have : d = 0 := Int64.toInt_inj.mp (by omega)
          rw [this]; rfl
        · rw [if_neg g2]
theorem isEnd_iff (w : Int32) : mX6_isEnd w = 0 ↔ ¬ (w = 0 ∨ w = 1) := by
  unfold mX6_isEnd
  by_cases h : w = 0
  · rw [if_pos h]; exact ⟨fun q => absurd q (by decide), fun q => absurd (Or.inl h) q⟩
  · rw [if_neg h]
    by_cases h1 : w = 1
    · rw [if_pos h1]; exact ⟨fun q => absurd q (by decide), fun q => absurd (Or.inr h1) q⟩
    · rw [if_neg h1]; exact ⟨fun _ q => q.elim h h1, fun _ => rfl⟩
theorem end_cond (w : Int32) : (w = 0 ∨ w = 1) ↔ (¬ w < 0 ∧ w ≤ 1) := by
  have a0 : (0 : Int32).toInt = 0 := by decide
  have a1 : (1 : Int32).toInt = 1 := by decide
  rw [← Int32.toInt_inj, ← Int32.toInt_inj, Int32.lt_iff_toInt_lt, Int32.le_iff_toInt_le, a0, a1]
  omega
theorem edge_L {u : TS} {v : MS} (hR : RR u v) (w : Int32) : ∀ (n : Nat) (x : Int64) (i : Int32), LU 8 n i → mX0_outermost_L u.2.2.2.1 w n x i = mX7_edge_L v w n x i := by
  intro n
  induction n with
  | zero => intro x i hm; exact hm.z.elim
  | succ n ih =>
    intro x i hm
    rw [mX0_outermost_L, mX7_edge_L]
    by_cases h8 : (8 : Int32) ≤ i
    · rw [if_pos h8, if_pos h8]
    · rw [if_neg h8, if_neg h8]
      have hin := LU.vin (N := 8) hm (B := 8) (by decide) h8 (by decide)
      rw [(hR.2.1 _ (in8 hin)).1]
      unfold mX1_outer
      rw [greater_eq, lesser_eq]
      by_cases h0 : w = 0
      · rw [if_pos h0, if_pos h0, ih _ _ (LU.up (B := 8) (by decide) hm h8)]
      · rw [if_neg h0, if_neg h0, ih _ _ (LU.up (B := 8) (by decide) hm h8)]
theorem sim_edge {u : TS} {v : MS} (hR : RR u v) (w : Int32) : mX6_edge u w = mX7_edge v w := by
  unfold mX6_edge mX7_edge
  by_cases h : w = 0 ∨ w = 1
  · rw [if_neg (fun q => (isEnd_iff w).mp q h), if_neg ((end_cond w).mp h).1, if_pos ((end_cond w).mp h).2]
    unfold mX0_outermost
    rw [(hR.2.1 _ (show (0 : Int32).toNatClampNeg < 8 by decide)).1]
    exact edge_L hR w 8 _ _ (by unfold LU; decide)
  · rw [if_pos ((isEnd_iff w).mpr h)]
    by_cases g : w < 0
    · rw [if_pos g]
    · rw [if_neg g, if_neg (fun q => h ((end_cond w).mpr ⟨g, q⟩))]
