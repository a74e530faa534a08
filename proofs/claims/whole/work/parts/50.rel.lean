/-! THE RELATION between the class's state and the model's -/
def RX (f xs : Nat → Int64) : Prop := ∀ k, k < 8 → f k = xs k ∧ sz (xs k) < 9218868437227405312
def RY (f : Nat → Int64) (ys : Nat → Int32) : Prop := ∀ k, k < 8 → f k = mX3_widened (ys k) ∧ sz4 (ys k) < 2139095040
def RA (W H : AS) (left right step : Int64) (low high grain : Int32) : Prop := W.1 = left ∧ W.2.1 = right ∧ W.2.2.1 = step ∧ H.1 = mX3_widened low ∧ H.2.1 = mX3_widened high ∧ H.2.2.1 = mX3_widened grain ∧ sz left ≤ 9218868437227405312 ∧ sz right ≤ 9218868437227405312 ∧ StepD step ∧ sz4 low ≤ 2139095040 ∧ sz4 high ≤ 2139095040 ∧ StepF grain
def RG (G gAt : Nat → Int64) (gOn : Nat → Int32) : Prop := ∀ g, g < 4 → (gOn g = 0 ∧ sz (G g) = 9218868437227405312) ∨ (gOn g = 1 ∧ G g = gAt g ∧ sz (gAt g) < 9218868437227405312)
def RT (T : RS) (tP : Nat → Int32) (tX : Nat → Int64) (tY : Nat → Int32) (trl : Int32) : Prop := ∃ n p : Nat, n ≤ 16 ∧ p < 16 ∧ trl = nI n ∧ T.1 = nI p ∧ T.2.1 = nI n ∧ (∀ j, j < 16 → vp_in (T.2.2.1 j) 8) ∧ ∀ j, j < n → T.2.2.1 ((p + 16 - n + j) % 16) = tP j ∧ T.2.2.2.1 ((p + 16 - n + j) % 16) = tX j ∧ T.2.2.2.2 ((p + 16 - n + j) % 16) = mX3_widened (tY j) ∧ sz (tX j) < 9218868437227405312 ∧ sz4 (tY j) < 2139095040
def RR (u : TS) (v : MS) : Prop := (u.1 = v.2.2.2.2.2.2.2.2.2.2.2.2.2.2.1 ∧ u.2.1 = v.2.2.2.2.2.2.2.2.2.2.2.2.2.2.2.1 ∧ u.2.2.1 = v.2.2.2.2.2.2.2.2.2.2.2.2.2.2.2.2) ∧ RX u.2.2.2.1.2.2.2 v.1 ∧ RY u.2.2.2.2.1.2.2.2 v.2.1 ∧ RA u.2.2.2.1 u.2.2.2.2.1 v.2.2.1 v.2.2.2.1 v.2.2.2.2.1 v.2.2.2.2.2.1 v.2.2.2.2.2.2.1 v.2.2.2.2.2.2.2.1 ∧ RG u.2.2.2.2.2.2 v.2.2.2.2.2.2.2.2.1 v.2.2.2.2.2.2.2.2.2.1 ∧ RT u.2.2.2.2.2.1 v.2.2.2.2.2.2.2.2.2.2.1 v.2.2.2.2.2.2.2.2.2.2.2.1 v.2.2.2.2.2.2.2.2.2.2.2.2.1 v.2.2.2.2.2.2.2.2.2.2.2.2.2.1
theorem in8 {k : Int32} (h : vp_in k 8) : k.toNatClampNeg < 8 := by
  obtain ⟨j, hj, rfl⟩ := vp_in_of h (by decide)
  rw [nI_clamp (by omega)]; exact hj
theorem in4 {k : Int32} (h : vp_in k 4) : k.toNatClampNeg < 4 := by
  obtain ⟨j, hj, rfl⟩ := vp_in_of h (by decide)
  rw [nI_clamp (by omega)]; exact hj
theorem isP_eq (k : Int32) : mX6_isPoint k = mX7_isPoint k := rfl
theorem sim_x {u : TS} {v : MS} (hR : RR u v) (k : Int32) : mX6_x u k = mX7_x v k := by
  unfold mX6_x mX7_x
  rw [← isP_eq]
  by_cases h : mX6_isPoint k = 0
  · simp only [h, if_true]
  · simp only [h, if_false]
    exact (hR.2.1 _ (in8 (pt_in h))).1
theorem sim_y {u : TS} {v : MS} (hR : RR u v) (k : Int32) : mX6_y u k = mX7_y v k := by
  unfold mX6_y mX7_y
  rw [← isP_eq]
  by_cases h : mX6_isPoint k = 0
  · simp only [h, if_true]
  · simp only [h, if_false]
    obtain ⟨h1, h2⟩ := hR.2.2.1 _ (in8 (pt_in h))
    rw [h1]
    exact narrow_wide h2
theorem sim_side {u : TS} {v : MS} (hR : RR u v) (k : Int32) : mX6_side u k = mX7_side v k := by
  unfold mX6_side mX7_side
  rw [← isP_eq]
  by_cases h : mX6_isPoint k = 0
  · simp only [h, if_true]
  · simp only [h, if_false]
    rw [(hR.2.1 _ (in8 (pt_in h))).1, unit_eq]
theorem sim_lift {u : TS} {v : MS} (hR : RR u v) (k : Int32) : mX6_lift u k = mX7_lift v k := by
  unfold mX6_lift mX7_lift
  rw [← isP_eq]
  by_cases h : mX6_isPoint k = 0
  · simp only [h, if_true]
  · simp only [h, if_false]
    obtain ⟨h1, h2⟩ := hR.2.2.1 _ (in8 (pt_in h))
    rw [h1]
    exact lift_eq h2
theorem sim_count {u : TS} {v : MS} (hR : RR u v) (k : Int32) : mX6_count u k = mX7_count v k := by
  obtain ⟨n, p, h1, h2, h3, h4, h5, h6⟩ := hR.2.2.2.2.2
  unfold mX6_count mX7_count
  rw [hR.1.1, hR.1.2.1, hR.1.2.2, h5, h3]
