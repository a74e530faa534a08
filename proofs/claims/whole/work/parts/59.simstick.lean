section
/-! SIMULATION of stick -/
def gds (v : MS) (k q : Int32) : Nat := mg (FP.dsub (v.1 k.toNatClampNeg).toUInt64 (v.2.2.2.2.2.2.2.2.1 q.toNatClampNeg).toUInt64)
def stE (v : MS) (k : Int32) (r : Int64) (q : Int32) : Int32 × MS := if q = (-1 : Int32) then ((mX7_refuses v (6 : Int32)).1, (mX7_refuses v (6 : Int32)).2) else (if lg_cmp (lN (gds v k q)) (mX7_size r) ≤ 0 then ((mX7_comes v k (v.2.2.2.2.2.2.2.2.1 q.toNatClampNeg) (v.2.1 k.toNatClampNeg)).1, (mX7_comes v k (v.2.2.2.2.2.2.2.2.1 q.toNatClampNeg) (v.2.1 k.toNatClampNeg)).2) else ((mX7_refuses v (6 : Int32)).1, (mX7_refuses v (6 : Int32)).2))
theorem gds_e {v : MS} {k q : Int32} (n1 : FP.dIsNaN (FP.dsub (v.1 k.toNatClampNeg).toUInt64 (v.2.2.2.2.2.2.2.2.1 q.toNatClampNeg).toUInt64) = false) : mX7_size (mX7_bits (FP.dsub (mX7_of (v.1 k.toNatClampNeg)) (mX7_of (v.2.2.2.2.2.2.2.2.1 q.toNatClampNeg)))) = lN (gds v k q) := by
  rw [show mX7_bits (FP.dsub (mX7_of (v.1 k.toNatClampNeg)) (mX7_of (v.2.2.2.2.2.2.2.2.1 q.toNatClampNeg))) = (FP.dsub (v.1 k.toNatClampNeg).toUInt64 (v.2.2.2.2.2.2.2.2.1 q.toNatClampNeg).toUInt64).toInt64 from bits_eq n1]
  exact msize _
theorem stick_L {u : TS} {v : MS} (hR : RR u v) {k : Int32} (hk : vp_in k 8) (r : Int64) : ∀ (n : Nat) (q : Int32) (d : UInt64) (w : Int64) (i : Int32), LU 4 n i → (q = -1 ∨ vp_in q 4 ∧ v.2.2.2.2.2.2.2.2.2.1 q.toNatClampNeg = 1 ∧ Az d ∧ mg d = gds v k q ∧ w = lN (gds v k q)) → (mX6_nearestGuide_L u (v.1 k.toNatClampNeg) n q d i = -1 ∨ vp_in (mX6_nearestGuide_L u (v.1 k.toNatClampNeg) n q d i) 4 ∧ v.2.2.2.2.2.2.2.2.2.1 (mX6_nearestGuide_L u (v.1 k.toNatClampNeg) n q d i).toNatClampNeg = 1) ∧ mX7_stick_L v k r n q w i = stE v k r (mX6_nearestGuide_L u (v.1 k.toNatClampNeg) n q d i) := by
  intro n
  induction n with
  | zero => intro q d w i hm; exact hm.z.elim
  | succ n ih =>
    intro q d w i hm hq
    rw [mX6_nearestGuide_L, mX7_stick_L]
    by_cases h4 : (4 : Int32) ≤ i
    · rw [if_pos h4, if_pos h4]
      refine ⟨hq.imp id (fun h => ⟨h.1, h.2.1⟩), ?_⟩
      unfold stE
      by_cases hq1 : q = -1
      · rw [if_pos hq1, if_pos hq1]
      · obtain ⟨v1, v2, v3, v4, v5⟩ := hq.resolve_left hq1
        rw [v5]
    · rw [if_neg h4, if_neg h4]
      have hin := LU.vin (N := 4) hm (B := 4) (by decide) h4 (by decide)
      have hup := LU.up (B := 4) (by decide) hm h4
      obtain ⟨x1, x2⟩ := hR.2.1 _ (in8 hk)
      rcases hR.2.2.2.2.1 _ (in4 hin) with ⟨g1, g2⟩ | ⟨g1, g2, g3⟩
      · rw [if_neg (fun z => (isInf_iff _).mp z g2), if_pos g1]
        exact ih _ _ _ _ hup hq
      · rw [g2]
        have hi : mX1_isInfinite (v.2.2.2.2.2.2.2.2.1 i.toNatClampNeg) = 0 := (isInf_iff _).mpr (by omega)
        have g0 : ¬ v.2.2.2.2.2.2.2.2.2.1 i.toNatClampNeg = 0 := by rw [g1]; decide
        rw [if_pos hi, if_neg g0]
        have n1 := sub_nn x2 g3
        obtain ⟨p1, p2⟩ := apart_w (u := u.2.2.2.1) (Nat.le_of_lt x2) (Nat.le_of_lt g3) n1
        rw [gds_e n1]
        have hnew : vp_in i 4 ∧ v.2.2.2.2.2.2.2.2.2.1 i.toNatClampNeg = 1 ∧ Az (mX0_apart_w u.2.2.2.1 (v.1 k.toNatClampNeg) (v.2.2.2.2.2.2.2.2.1 i.toNatClampNeg)) ∧ mg (mX0_apart_w u.2.2.2.1 (v.1 k.toNatClampNeg) (v.2.2.2.2.2.2.2.2.1 i.toNatClampNeg)) = gds v k i ∧ lN (gds v k i) = lN (gds v k i) := ⟨hin, g1, p1, p2, rfl⟩
        by_cases hq1 : q = -1
        · rw [if_pos hq1, if_pos hq1]; exact ih _ _ _ _ hup (Or.inr hnew)
        · rw [if_neg hq1, if_neg hq1]
          obtain ⟨v1, v2, v3, v4, v5⟩ := hq.resolve_left hq1
          have l1 := p1.le
          have l2 := v3.le
          rw [p2] at l1
          rw [v4] at l2
          have p2' : mg (mX0_apart_w u.2.2.2.1 (v.1 k.toNatClampNeg) (v.2.2.2.2.2.2.2.2.1 i.toNatClampNeg)) = gds v k i := p2
          have l1' : gds v k i ≤ 9218868437227405312 := l1
          have c1 : 0 ≤ Op.cmpValue (FP.dcmp (mX0_apart_w u.2.2.2.1 (v.1 k.toNatClampNeg) (v.2.2.2.2.2.2.2.2.1 i.toNatClampNeg)) d) .g ↔ gds v k q ≤ gds v k i := by
            rw [(i32_nlt _).1, az_lt p1 v3, p2', v4]; omega
          have c2 : lg_cmp (lN (gds v k i)) w < 0 ↔ ¬ gds v k q ≤ gds v k i := by
            rw [show lg_cmp (lN (gds v k i)) w < 0 ↔ ¬ 0 ≤ lg_cmp (lN (gds v k i)) w from by rw [(i32_nlt _).1]; exact Decidable.not_not.symm, lg_cmp_ge, v5, pk_lLE (by omega) (by omega)]
          by_cases hd : gds v k q ≤ gds v k i
          · rw [if_pos (c1.mpr hd), if_neg (fun z => (c2.mp z) hd)]; exact ih _ _ _ _ hup hq
          · rw [if_neg (fun z => hd (c1.mp z)), if_pos (c2.mpr hd)]; exact ih _ _ _ _ hup (Or.inr hnew)
theorem sim_stick {u : TS} {v : MS} (hR : RR u v) (k : Int32) (r : Int64) : (mX6_stick u k r).1 = (mX7_stick v k r).1 ∧ RR (mX6_stick u k r).2 (mX7_stick v k r).2 := by
  unfold mX6_stick mX7_stick
  rw [← isP_eq]
  by_cases c0 : mX6_isPoint k = 0
  · rw [if_pos c0, if_pos c0]; exact sim_refuse hR 1
  · rw [if_neg c0, if_neg c0]
    by_cases c1 : mX7_isNone r = 0
    · rw [if_pos (show mX1_isNone r = 0 from c1), if_pos c1]
      have hr := (isNone_iff r).mp c1
      have hk := pt_in c0
      obtain ⟨x1, x2⟩ := hR.2.1 _ (in8 hk)
      obtain ⟨y1, y2⟩ := hR.2.2.1 _ (in8 hk)
      rw [value_eq hr]
      have k1 : mX7_isBelow r 0 = 0 ↔ r.toUInt64.toNat ≤ 2 ^ 63 := by
        rw [isBelow_iff, key_sz, show FP.Core.dkey (0 : Int64).toUInt64 = 0 from dkey0]
        have := un_lt r
        unfold sz
        split <;> omega
      have k2 := (cmp0 (nan_of hr) CmpOp.g).1
      by_cases c2 : r.toUInt64.toNat ≤ 2 ^ 63
      · rw [if_pos (k2.mpr c2), if_pos (k1.mpr c2)]
        have ha : Az r.toUInt64 := by unfold Az; unfold sz at hr; omega
        obtain ⟨s1, s2⟩ := stick_L hR hk r 5 (-1) FP.dconst0 0 0 (by unfold LU; decide) (Or.inl rfl)
        rw [s2, x1]
        rw [show mX6_nearestGuide u (v.1 k.toNatClampNeg) = mX6_nearestGuide_L u (v.1 k.toNatClampNeg) 5 (-1) FP.dconst0 0 from rfl]
        generalize mX6_nearestGuide_L u (v.1 k.toNatClampNeg) 5 (-1) FP.dconst0 0 = q at s1 ⊢
        unfold stE
        by_cases hq : q = -1
        · rw [if_pos hq, if_pos hq]; exact sim_refuse hR 6
        · rw [if_neg hq, if_neg hq]
          obtain ⟨v1, v2⟩ := s1.resolve_left hq
          rcases hR.2.2.2.2.1 _ (in4 v1) with ⟨g1, g2⟩ | ⟨g1, g2, g3⟩
          · rw [v2] at g1; exact absurd g1 (by decide)
          · rw [g2, y1]
            have n1 := sub_nn x2 g3
            obtain ⟨p1, p2⟩ := apart_w (u := u.2.2.2.1) (Nat.le_of_lt x2) (Nat.le_of_lt g3) n1
            have p2' : mg (mX0_apart_w u.2.2.2.1 (v.1 k.toNatClampNeg) (v.2.2.2.2.2.2.2.2.1 q.toNatClampNeg)) = gds v k q := p2
            have l1 := p1.le
            rw [p2'] at l1
            have l2 := ha.le
            have e1 : mX7_size r = lN (mg r.toUInt64) := and_size r
            have c3 : Op.cmpValue (FP.dcmp (mX0_apart_w u.2.2.2.1 (v.1 k.toNatClampNeg) (v.2.2.2.2.2.2.2.2.1 q.toNatClampNeg)) r.toUInt64) .l ≤ 0 ↔ gds v k q ≤ mg r.toUInt64 := by
              rw [(i32_nlt _).2, az_gt p1 ha, p2']; omega
            have c4 : lg_cmp (lN (gds v k q)) (mX7_size r) ≤ 0 ↔ gds v k q ≤ mg r.toUInt64 := by
              rw [lg_cmp_le, e1, pk_lLE (by omega) (by omega)]
            by_cases hd : gds v k q ≤ mg r.toUInt64
            · rw [if_pos (c3.mpr hd), if_pos (c4.mpr hd)]
              exact sim_comes hR hk (Nat.le_of_lt g3) (Nat.le_of_lt y2)
            · rw [if_neg (fun z => hd (c3.mp z)), if_neg (fun z => hd (c4.mp z))]; exact sim_refuse hR 6
      · rw [if_neg (fun z => c2 (k2.mp z)), if_neg (fun z => c2 (k1.mp z))]; exact sim_refuse hR 4
    · rw [if_neg (show ¬ mX1_isNone r = 0 from c1), if_neg c1]; exact sim_refuse hR 2
end
