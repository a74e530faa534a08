/-! SIMULATION of snap, lean, pull, swing, guide and undo -/
theorem mul_nn {W s : Int64} (hW : sz W ≤ 9218868437227405312) (hs : StepD s) : sz (FP.dmul W.toUInt64 s.toUInt64).toInt64 ≤ 9218868437227405312 := by
  have hx : (lN (sz W)).toUInt64.toNat ≤ 9218868437227405312 := by rw [size_un hW]; exact hW
  have hq := mul_le hs.1 hs.2 hx
  rw [← mul_w hW rfl hs, hs.vos, vos_all hW, ofs_all hq, tu_lN, wsg (by omega)]
  obtain ⟨s1, s2⟩ := sgb_sz (b := ng W) (x := (FP.dmul (lN (sz W)).toUInt64 s.toUInt64).toNat) (by omega)
  rw [s1]; exact hq
theorem mul4_nn {y g : Int32} (hy : sz4 y ≤ 2139095040) (hs : StepF g) : sz4 (FP.fmul y.toUInt32 g.toUInt32).toInt32 ≤ 2139095040 :=
  (signG (G := fun x => FP.fmul x g.toUInt32) (fun x hx => fmul_le hs.1 hs.2 hx) (fun x hx => fmul_neg hs.1 hs.2 hx) hy).1
theorem sim_snap {u : TS} {v : MS} (hR : RR u v) (k w : Int32) : (mX6_snap u k w).1 = (mX7_snap v k w).1 ∧ RR (mX6_snap u k w).2 (mX7_snap v k w).2 := by
  unfold mX6_snap mX7_snap mX5_isWay
  rw [← isP_eq]
  by_cases c0 : mX6_isPoint k = 0
  · rw [if_pos c0, if_pos c0]; exact sim_refuse hR 1
  · rw [if_neg c0, if_neg c0]
    by_cases c1 : w < 0
    · rw [if_pos c1, if_pos c1, if_pos rfl]; exact sim_refuse hR 1
    · rw [if_neg c1, if_neg c1]
      by_cases c2 : w ≤ 3
      · rw [if_neg (show ¬ (3 : Int32) < w from by rw [Int32.lt_iff_toInt_lt]; rw [Int32.le_iff_toInt_le] at c2; omega), if_neg (show ¬ (1 : Int32) = 0 by decide), if_pos c2]
        obtain ⟨t, ht, rfl⟩ := nI_of2 (n := 3) (by decide) c1 c2
        obtain ⟨x1, x2⟩ := hR.2.1 _ (in8 (pt_in c0))
        obtain ⟨y1, y2⟩ := hR.2.2.1 _ (in8 (pt_in c0))
        have hsd := hR.step
        have hst := hR.2.2.2.1.2.2.1
        obtain ⟨hg, hge⟩ := hR.grain
        rw [x1, y1, snap_w ht (by omega) hsd, snap_h hge ht (by omega) hg]
        rw [hst] at hsd ⊢
        obtain ⟨q1, q2⟩ := quo_nn (a := v.1 k.toNatClampNeg) (by omega) hsd
        obtain ⟨w1, w2⟩ := whole_nn ht q1
        have m1 := mul_nn w1 hsd
        obtain ⟨q3, q4⟩ := quo4_nn (y := v.2.1 k.toNatClampNeg) (by omega) hg
        obtain ⟨w3, w4⟩ := whole4_nn ht q3
        have m3 := mul4_nn w3 hg
        have e1 : mX7_bits (FP.dmul (mX7_of (mX7_whole (mX7_bits (FP.ddiv (mX7_of (v.1 k.toNatClampNeg)) (mX7_of v.2.2.2.2.1))) (nI t))) (mX7_of v.2.2.2.2.1)) = (FP.dmul (mX7_whole (FP.ddiv (v.1 k.toNatClampNeg).toUInt64 v.2.2.2.2.1.toUInt64).toInt64 (nI t)).toUInt64 v.2.2.2.2.1.toUInt64).toInt64 := by
          rw [show mX7_bits (FP.ddiv (mX7_of (v.1 k.toNatClampNeg)) (mX7_of v.2.2.2.2.1)) = (FP.ddiv (v.1 k.toNatClampNeg).toUInt64 v.2.2.2.2.1.toUInt64).toInt64 from bits_eq (nan_of q1)]
          exact bits_eq (nan_of m1)
        have e2 : mX7_bits4 (FP.fmul (mX7_of4 (mX7_whole4 (mX7_bits4 (FP.fdiv (mX7_of4 (v.2.1 k.toNatClampNeg)) (mX7_of4 v.2.2.2.2.2.2.2.1))) (nI t))) (mX7_of4 v.2.2.2.2.2.2.2.1)) = (FP.fmul (mX7_whole4 (FP.fdiv (v.2.1 k.toNatClampNeg).toUInt32 v.2.2.2.2.2.2.2.1.toUInt32).toInt32 (nI t)).toUInt32 v.2.2.2.2.2.2.2.1.toUInt32).toInt32 := by
          rw [show mX7_bits4 (FP.fdiv (mX7_of4 (v.2.1 k.toNatClampNeg)) (mX7_of4 v.2.2.2.2.2.2.2.1)) = (FP.fdiv (v.2.1 k.toNatClampNeg).toUInt32 v.2.2.2.2.2.2.2.1.toUInt32).toInt32 from bits4_eq (nan4_of q3)]
          exact bits4_eq (nan4_of m3)
        rw [e1, e2]
        exact sim_comes hR (pt_in c0) m1 m3
      · rw [if_pos (show (3 : Int32) < w from by rw [Int32.lt_iff_toInt_lt]; rw [Int32.le_iff_toInt_le] at c2; omega), if_pos rfl, if_neg c2]; exact sim_refuse hR 1
theorem wso (a b : Int64) : mX1_withSignOf a b = sgb (ng b) (sz a) := by
  unfold mX1_withSignOf
  rw [and_size, Int64.or_comm]
  exact or_sgn b (sz_lt a)
theorem wso4 (a b : Int32) : (mX7_size4 a ||| (b &&& (-2147483648 : Int32))) = sgb4 (ng4 b) (sz4 a) := by
  rw [show mX7_size4 a = nI (sz4 a) from and_size4 a, Int32.or_comm]
  exact or_sgn4 b (sz4_lt a)
theorem sim_lean {u : TS} {v : MS} (hR : RR u v) (k j : Int32) : (mX6_lean u k j).1 = (mX7_lean v k j).1 ∧ RR (mX6_lean u k j).2 (mX7_lean v k j).2 := by
  unfold mX6_lean mX7_lean
  rw [← isP_eq, ← isP_eq]
  by_cases c0 : mX6_isPoint k = 0
  · rw [if_pos c0, if_pos c0]; exact sim_refuse hR 1
  · rw [if_neg c0, if_neg c0]
    by_cases c1 : mX6_isPoint j = 0
    · rw [if_pos c1, if_pos c1]; exact sim_refuse hR 1
    · rw [if_neg c1, if_neg c1]
      obtain ⟨x1, x2⟩ := hR.2.1 _ (in8 (pt_in c0))
      obtain ⟨y1, y2⟩ := hR.2.2.1 _ (in8 (pt_in c0))
      obtain ⟨x3, x4⟩ := hR.2.1 _ (in8 (pt_in c1))
      obtain ⟨y3, y4⟩ := hR.2.2.1 _ (in8 (pt_in c1))
      rw [x1, y1, x3, y3, wso4, wso (mX3_widened _), sz_wide (by omega), ng_wide (by omega), ← wd_sgb (by omega)]
      refine sim_comes hR (pt_in c0) ?_ ?_
      · have := (sgb_sz (b := ng (v.1 j.toNatClampNeg)) (sz_lt (v.1 k.toNatClampNeg))).1
        rw [wso, this]
        omega
      · rw [(sgb4_sz (sz4_lt _)).1]; omega
theorem sim_pull {u : TS} {v : MS} (hR : RR u v) (k j w : Int32) : (mX6_pull u k j w).1 = (mX7_pull v k j w).1 ∧ RR (mX6_pull u k j w).2 (mX7_pull v k j w).2 := by
  unfold mX6_pull mX7_pull
  rw [← isP_eq, ← isP_eq]
  by_cases c0 : mX6_isPoint k = 0
  · rw [if_pos c0, if_pos c0]; exact sim_refuse hR 1
  · rw [if_neg c0, if_neg c0]
    by_cases c1 : mX6_isPoint j = 0
    · rw [if_pos c1, if_pos c1]; exact sim_refuse hR 1
    · rw [if_neg c1, if_neg c1]
      by_cases h : w = 0 ∨ w = 1
      · rw [if_neg (fun q => (isEnd_iff w).mp q h), if_neg ((end_cond w).mp h).1, if_pos ((end_cond w).mp h).2]
        obtain ⟨x1, x2⟩ := hR.2.1 _ (in8 (pt_in c0))
        obtain ⟨y1, y2⟩ := hR.2.2.1 _ (in8 (pt_in c0))
        obtain ⟨x3, x4⟩ := hR.2.1 _ (in8 (pt_in c1))
        obtain ⟨y3, y4⟩ := hR.2.2.1 _ (in8 (pt_in c1))
        have hm0 := hR.1.2.2
        have hp := fun {x : Int64} {y : Int32} hx hy => sim_put hR (pt_in c0) (x := x) (y := y) hx hy (e1 := u.2.2.1) hm0
        obtain ⟨tP, tX, tY, trl, e, hT⟩ := keep_sim hR (pt_in c0)
        rw [e] at hp ⊢
        rw [x1, y1, x3, y3]
        unfold mX1_outer
        rw [greater_wd (by omega) (by omega), lesser_wd (by omega) (by omega)]
        by_cases h0 : w = 0
        · rw [if_pos h0, if_pos h0, if_pos h0, if_pos h0, greater_eq]
          exact hp (by rw [← greater_eq]; exact (sel8 x2 x4).2) (sel4 y2 y4).2
        · rw [if_neg h0, if_neg h0, if_neg h0, if_neg h0, lesser_eq]
          exact hp (by rw [← lesser_eq]; exact (sel8 x2 x4).1) (sel4 y2 y4).1
      · rw [if_pos ((isEnd_iff w).mpr h)]
        by_cases g : w < 0
        · rw [if_pos g]; exact sim_refuse hR 1
        · rw [if_neg g, if_neg (fun q => h ((end_cond w).mpr ⟨g, q⟩))]; exact sim_refuse hR 1
theorem opp_dneg (a : Int64) : mX1_opposite a = (FP.dneg a.toUInt64).toInt64 := rfl
theorem opp4_fneg (y : Int32) : y ^^^ (-2147483648 : Int32) = (FP.fneg y.toUInt32).toInt32 := rfl
theorem opp_sgb (a : Int64) : mX1_opposite a = sgb (!ng a) (sz a) := by
  rw [opp_dneg, tu_lN, dneg_un]
  have := un_lt a
  unfold sgb ng sz
  by_cases h : a.toUInt64.toNat < 2 ^ 63
  · rw [if_pos h, show decide (2 ^ 63 ≤ a.toUInt64.toNat) = false from decide_eq_false (by omega), Bool.not_false, if_pos rfl]
    exact congrArg lN (by omega)
  · rw [if_neg h, show decide (2 ^ 63 ≤ a.toUInt64.toNat) = true from decide_eq_true (by omega), Bool.not_true, if_neg (by decide)]
    exact congrArg lN (by omega)
theorem opp4_sgb (y : Int32) : y ^^^ (-2147483648 : Int32) = sgb4 (!ng4 y) (sz4 y) := by
  rw [opp4_fneg, nI_un (FP.fneg y.toUInt32).toInt32, un4_toInt32, fneg_un]
  have := un4_lt y
  unfold sgb4 ng4 sz4
  by_cases h : y.toUInt32.toNat < 2 ^ 31
  · rw [if_pos h, show decide (2 ^ 31 ≤ y.toUInt32.toNat) = false from decide_eq_false (by omega), Bool.not_false, if_pos rfl]
    exact congrArg nI (by omega)
  · rw [if_neg h, show decide (2 ^ 31 ≤ y.toUInt32.toNat) = true from decide_eq_true (by omega), Bool.not_true, if_neg (by decide)]
    exact congrArg nI (by omega)
theorem sim_swing {u : TS} {v : MS} (hR : RR u v) (k : Int32) (x : Int64) : (mX6_swing u k x).1 = (mX7_swing v k x).1 ∧ RR (mX6_swing u k x).2 (mX7_swing v k x).2 := by
  unfold mX6_swing mX7_swing
  rw [← isP_eq]
  by_cases c0 : mX6_isPoint k = 0
  · rw [if_pos c0, if_pos c0]; exact sim_refuse hR 1
  · rw [if_neg c0, if_neg c0]
    by_cases c1 : mX7_isNone x = 0
    · rw [if_pos (show mX1_isNone x = 0 from c1), if_pos c1]
      by_cases c2 : mX7_isInfinite x = 0
      · rw [if_pos (show mX1_isInfinite x = 0 from c2), if_pos c2]
        have hx0 := (isNone_iff x).mp c1
        have hx : sz x < 9218868437227405312 := by have := (isInf_iff x).mp c2; omega
        obtain ⟨x1, x2⟩ := hR.2.1 _ (in8 (pt_in c0))
        obtain ⟨y1, y2⟩ := hR.2.2.1 _ (in8 (pt_in c0))
        have n1 := add_nn hx hx0
        have o1 : sz (mX1_opposite (v.1 k.toNatClampNeg)) < 9218868437227405312 := by
          rw [opp_sgb, (sgb_sz (sz_lt _)).1]; exact x2
        have of1 : FP.Core.DFin (mX1_opposite (v.1 k.toNatClampNeg)).toUInt64 := by rw [FP.Core.fin_bits]; exact o1
        have n2 : FP.dIsNaN (FP.dadd (FP.dadd x.toUInt64 x.toUInt64).toInt64.toUInt64 (mX1_opposite (v.1 k.toNatClampNeg)).toUInt64) = false := FP.Core.dadd_out n1 of1
        rw [x1, y1, sum_w_eq hx0 hx0 n1, sum_w_eq (sz_of_nan n1) (by omega) n2]
        have e1 : mX7_bits (FP.dsub (FP.dadd (mX7_of x) (mX7_of x)) (mX7_of (v.1 k.toNatClampNeg))) = (FP.dadd (FP.dadd x.toUInt64 x.toUInt64).toInt64.toUInt64 (mX1_opposite (v.1 k.toNatClampNeg)).toUInt64).toInt64 := by
          rw [show FP.dsub (FP.dadd (mX7_of x) (mX7_of x)) (mX7_of (v.1 k.toNatClampNeg)) = FP.dadd (FP.dadd x.toUInt64 x.toUInt64).toInt64.toUInt64 (mX1_opposite (v.1 k.toNatClampNeg)).toUInt64 from by
            rw [opp_dneg, un_toInt64, un_toInt64, FP.dneg_core (nan_of (by omega))]
            exact FP.Core.dsub_eq _ _]
          exact bits_eq n2
        have e2 : mX1_opposite (mX3_widened (v.2.1 k.toNatClampNeg)) = mX3_widened ((v.2.1 k.toNatClampNeg) ^^^ (-2147483648 : Int32)) := by
          rw [opp_sgb, opp4_sgb, wd_sgb (by omega), sz_wide (by omega), ng_wide (by omega)]
        rw [e1, e2]
        refine sim_comes hR (pt_in c0) (sz_of_nan n2) ?_
        rw [opp4_sgb, (sgb4_sz (sz4_lt _)).1]; omega
      · rw [if_neg (show ¬ mX1_isInfinite x = 0 from c2), if_neg c2]; exact sim_refuse hR 3
    · rw [if_neg (show ¬ mX1_isNone x = 0 from c1), if_neg c1]; exact sim_refuse hR 2
theorem sim_guide {u : TS} {v : MS} (hR : RR u v) (g : Int32) (x : Int64) : (mX6_guide u g x).1 = (mX7_guide v g x).1 ∧ RR (mX6_guide u g x).2 (mX7_guide v g x).2 := by
  unfold mX6_guide mX7_guide
  by_cases c0 : g < 0
  · rw [if_pos c0, if_pos c0]; exact sim_refuse hR 1
  · rw [if_neg c0, if_neg c0]
    by_cases c1 : g < 4
    · rw [if_pos c1, if_pos c1]
      by_cases c2 : mX7_isNone x = 0
      · rw [if_pos (show mX1_isNone x = 0 from c2), if_pos c2]
        have hx0 := (isNone_iff x).mp c2
        by_cases c3 : mX7_isInfinite x = 0
        · rw [if_pos c3]
          refine sim_finish ⟨hR.1, hR.2.1, hR.2.2.1, hR.2.2.2.1, ?_, hR.2.2.2.2.2⟩
          intro t ht
          show ((if t = _ then _ else _) = (0 : Int32) ∧ sz (if t = _ then _ else _) = _) ∨ ((if t = _ then _ else _) = (1 : Int32) ∧ (if t = _ then _ else _) = (if t = _ then _ else _) ∧ sz (if t = _ then _ else _) < _)
          have hx : sz x < 9218868437227405312 := by have := (isInf_iff x).mp c3; omega
          by_cases e : t = g.toNatClampNeg
          · simp only [if_pos e]; exact Or.inr ⟨by first | rfl | trivial, by first | rfl | trivial, hx⟩
          · simp only [if_neg e]; exact hR.2.2.2.2.1 t ht
        · rw [if_neg c3]
          refine sim_finish ⟨hR.1, hR.2.1, hR.2.2.1, hR.2.2.2.1, ?_, hR.2.2.2.2.2⟩
          intro t ht
          show ((if t = _ then _ else _) = (0 : Int32) ∧ sz (if t = _ then _ else _) = _) ∨ ((if t = _ then _ else _) = (1 : Int32) ∧ (if t = _ then _ else _) = (if t = _ then _ else _) ∧ sz (if t = _ then _ else _) < _)
          have hx : sz x = 9218868437227405312 := Decidable.byContradiction (fun q => c3 ((isInf_iff x).mpr q))
          by_cases e : t = g.toNatClampNeg
          · simp only [if_pos e]; exact Or.inl ⟨by first | rfl | trivial, hx⟩
          · simp only [if_neg e]; exact hR.2.2.2.2.1 t ht
      · rw [if_neg (show ¬ mX1_isNone x = 0 from c2), if_neg c2]; exact sim_refuse hR 2
    · rw [if_neg c1, if_neg c1]; exact sim_refuse hR 1
theorem ring_down : ∀ p, p < 16 → (nI p + (16 : Int32) - (1 : Int32)) - (nI p + (16 : Int32) - (1 : Int32)) / (16 : Int32) * (16 : Int32) = nI ((p + 15) % 16) := by decide +kernel
theorem sim_undo {u : TS} {v : MS} (hR : RR u v) : (mX6_undo u).1 = (mX7_undo v).1 ∧ RR (mX6_undo u).2 (mX7_undo v).2 := by
  obtain ⟨n, p, h1, h2, h3, h4, h5, h6, h7⟩ := hR.2.2.2.2.2
  unfold mX6_undo mX7_undo mX4_takeLatest
  rw [h3, h5]
  by_cases hn : n = 0
  · subst hn
    rw [if_pos (show nI 0 = 0 from rfl), if_pos (show nI 0 = 0 from rfl)]
    exact ⟨rfl, hR⟩
  · obtain ⟨m, rfl⟩ : ∃ m, n = m + 1 := ⟨n - 1, by omega⟩
    rw [if_neg (nI_ne0 (by omega) (by omega)), if_neg (nI_ne0 (by omega) (by omega))]
    rw [h4, ring_down p h2, nI_pred]
    obtain ⟨q1, q2, q3, q4, q5⟩ := h7 m (by omega)
    have hin := h6 ((p + 15) % 16) (by omega)
    rw [show (p + 16 - (m + 1) + m) % 16 = (p + 15) % 16 by omega] at q1 q2 q3
    rw [nI_clamp (show m < 2 ^ 31 by omega), nI_clamp (show (p + 15) % 16 < 2 ^ 31 by omega)]
    rw [q1] at hin
    show u.2.2.2.2.2.1.2.2.1 ((p + 15) % 16) = _ ∧ _
    refine ⟨q1, hR.1, ?_, ?_, hR.2.2.2.1, hR.2.2.2.2.1, ?_⟩
    · show RX (vp_updL u.2.2.2.1.2.2.2 (u.2.2.2.2.2.1.2.2.1 ((p + 15) % 16)).toNatClampNeg (u.2.2.2.2.2.1.2.2.2.1 ((p + 15) % 16))) _
      rw [q1, q2]
      exact hR.2.1.put _ q4
    · show RY (vp_updL u.2.2.2.2.1.2.2.2 (u.2.2.2.2.2.1.2.2.1 ((p + 15) % 16)).toNatClampNeg (u.2.2.2.2.2.1.2.2.2.2 ((p + 15) % 16))) _
      rw [q1, q3]
      exact hR.2.2.1.put _ q5
    · refine ⟨m, (p + 15) % 16, by omega, by omega, rfl, rfl, rfl, h6, ?_⟩
      intro j hj
      have := h7 j (by omega)
      rw [show (p + 16 - (m + 1) + j) % 16 = ((p + 15) % 16 + 16 - m + j) % 16 by omega] at this
      exact this
