/-! SIMULATION of far and neighbour -/
theorem wd_nI {m : Nat} (h : m ≤ 2139095040) : mX3_widened (nI m) = lN (Wd m) := by
  have hz := sz4_nI (m := m) (by omega)
  rw [wide_un (by rw [hz]; exact h), hz, if_pos (by rw [nI_tu (by omega)]; omega), Nat.zero_add]
theorem mfar_dst {u : TS} {v : MS} (hR : RR u v) {k j : Int32} (hk : vp_in k 8) (hj : vp_in j 8) : mX7_far v k j = lN (dst v k j) ∧ dst v k j ≤ 9218868437227405312 := by
  obtain ⟨a1, a2⟩ := hR.2.1 _ (in8 hk)
  obtain ⟨b1, b2⟩ := hR.2.1 _ (in8 hj)
  obtain ⟨c1, c2⟩ := hR.2.2.1 _ (in8 hk)
  obtain ⟨d1, d2⟩ := hR.2.2.1 _ (in8 hj)
  have n1 := sub_nn a2 b2
  have n2 := sub4_nn c2 d2
  have hS : sz4 (FP.fsub (v.2.1 k.toNatClampNeg).toUInt32 (v.2.1 j.toNatClampNeg).toUInt32).toInt32 ≤ 2139095040 := (isnan4_iff _).mp n2
  have e1 : mX7_size (mX7_bits (FP.dsub (mX7_of (v.1 k.toNatClampNeg)) (mX7_of (v.1 j.toNatClampNeg)))) = lN (mg (FP.dsub (v.1 k.toNatClampNeg).toUInt64 (v.1 j.toNatClampNeg).toUInt64)) := by
    rw [show mX7_bits (FP.dsub (mX7_of (v.1 k.toNatClampNeg)) (mX7_of (v.1 j.toNatClampNeg))) = (FP.dsub (v.1 k.toNatClampNeg).toUInt64 (v.1 j.toNatClampNeg).toUInt64).toInt64 from bits_eq n1]
    exact msize _
  have e2 : mX7_bits (FP.f2d (mX7_of4 (mX7_size4 (mX7_bits4 (FP.fsub (mX7_of4 (v.2.1 k.toNatClampNeg)) (mX7_of4 (v.2.1 j.toNatClampNeg))))))) = lN (Wd (sz4 (FP.fsub (v.2.1 k.toNatClampNeg).toUInt32 (v.2.1 j.toNatClampNeg).toUInt32).toInt32)) := by
    rw [show mX7_bits4 (FP.fsub (mX7_of4 (v.2.1 k.toNatClampNeg)) (mX7_of4 (v.2.1 j.toNatClampNeg))) = (FP.fsub (v.2.1 k.toNatClampNeg).toUInt32 (v.2.1 j.toNatClampNeg).toUInt32).toInt32 from bits4_eq n2, msize4]
    generalize sz4 (FP.fsub (v.2.1 k.toNatClampNeg).toUInt32 (v.2.1 j.toNatClampNeg).toUInt32).toInt32 = m at *
    have hz := sz4_nI (m := m) (by omega)
    have hf : FP.f2d (mX7_of4 (nI m)) = (mX3_widened (nI m)).toUInt64 := f2d_wide (by rw [hz]; exact hS)
    rw [hf, bits_eq (nan_of (wd_nn (by rw [hz]; exact hS))), wd_nI hS]
    rfl
  have l1 : mg (FP.dsub (v.1 k.toNatClampNeg).toUInt64 (v.1 j.toNatClampNeg).toUInt64) ≤ 9218868437227405312 := (isnan_iff _).mp n1
  have l2 := Wd_63 hS
  unfold mX7_far dst
  rw [← isP_eq, ← isP_eq, if_neg (in_pt hk), if_neg (in_pt hj), e1, e2]
  generalize mg (FP.dsub (v.1 k.toNatClampNeg).toUInt64 (v.1 j.toNatClampNeg).toUInt64) = a at *
  generalize Wd (sz4 (FP.fsub (v.2.1 k.toNatClampNeg).toUInt32 (v.2.1 j.toNatClampNeg).toUInt32).toInt32) = c at *
  have hc : lg_cmp (lN a) (lN c) ≤ 0 ↔ a ≤ c := by rw [lg_cmp_le, pk_lLE (by omega) (by omega)]
  by_cases h : a ≤ c
  · rw [if_pos (hc.mpr h)]
    exact ⟨congrArg lN (by omega), by omega⟩
  · rw [if_neg (fun q => h (hc.mp q))]
    exact ⟨congrArg lN (by omega), by omega⟩
theorem sim_far {u : TS} {v : MS} (hR : RR u v) (k j : Int32) : mX6_far u k j = mX7_far v k j := by
  by_cases h : mX6_isPoint k = 0
  · unfold mX6_far mX7_far
    rw [← isP_eq, if_pos h, if_pos h]
  · by_cases h2 : mX6_isPoint j = 0
    · unfold mX6_far mX7_far
      rw [← isP_eq, ← isP_eq, if_neg h, if_neg h, if_pos h2, if_pos h2]
    · rw [(mfar_dst hR (pt_in h) (pt_in h2)).1]
      unfold mX6_far
      rw [if_neg h, if_neg h2]
      obtain ⟨d1, d2⟩ := dist_az hR (pt_in h) (pt_in h2)
      rw [d1.ofs, d2]
theorem neighbour_L {u : TS} {v : MS} (hR : RR u v) {k : Int32} (hk : vp_in k 8) : ∀ (n : Nat) (q : Int32) (d : UInt64) (i : Int32), LU 8 n i → (q = -1 ∨ vp_in q 8 ∧ Az d ∧ mg d = dst v k q) → mX6_neighbour_L u k n q d i = mX7_neighbour_L v k n q i := by
  intro n
  induction n with
  | zero => intro q d i hm; exact hm.z.elim
  | succ n ih =>
    intro q d i hm hq
    rw [mX6_neighbour_L, mX7_neighbour_L]
    by_cases h8 : (8 : Int32) ≤ i
    · rw [if_pos h8, if_pos h8]
    · rw [if_neg h8, if_neg h8]
      have hin := LU.vin (N := 8) hm (B := 8) (by decide) h8 (by decide)
      have hup := LU.up (B := 8) (by decide) hm h8
      obtain ⟨d1, d2⟩ := dist_az hR hk hin
      by_cases hik : i = k
      · rw [if_pos hik, if_pos hik]; exact ih _ _ _ hup hq
      · rw [if_neg hik, if_neg hik]
        by_cases hq1 : q = -1
        · rw [if_pos hq1, if_pos hq1]; exact ih _ _ _ hup (Or.inr ⟨hin, d1, d2⟩)
        · rw [if_neg hq1, if_neg hq1]
          obtain ⟨v1, v2, v3⟩ := hq.resolve_left hq1
          obtain ⟨f1, f2⟩ := mfar_dst hR hk hin
          obtain ⟨g1, g2⟩ := mfar_dst hR hk v1
          have c1 : 0 ≤ Op.cmpValue (FP.dcmp (mX6_distance u k i) d) .g ↔ dst v k q ≤ dst v k i := by
            rw [(i32_nlt _).1, az_lt d1 v2, d2, v3]; omega
          have c2 : 0 ≤ lg_cmp (mX7_far v k i) (mX7_far v k q) ↔ dst v k q ≤ dst v k i := by
            rw [lg_cmp_ge, f1, g1, pk_lLE (by omega) (by omega)]
          by_cases hd : dst v k q ≤ dst v k i
          · rw [if_pos (c1.mpr hd), if_pos (c2.mpr hd)]; exact ih _ _ _ hup hq
          · rw [if_neg (fun z => hd (c1.mp z)), if_neg (fun z => hd (c2.mp z))]; exact ih _ _ _ hup (Or.inr ⟨hin, d1, d2⟩)
theorem sim_neighbour {u : TS} {v : MS} (hR : RR u v) (k : Int32) : mX6_neighbour u k = mX7_neighbour v k := by
  unfold mX6_neighbour mX7_neighbour
  rw [← isP_eq]
  by_cases h : mX6_isPoint k = 0
  · rw [if_pos h, if_pos h]
  · rw [if_neg h, if_neg h]
    exact neighbour_L hR (pt_in h) 9 _ _ _ (by unfold LU; decide) (Or.inl rfl)
