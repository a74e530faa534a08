/-! SIMULATION of the acts: refusing, doing, keeping the trail -/
theorem sim_refuse {u : TS} {v : MS} (hR : RR u v) (c : Int32) : (mX6_refuse u c).1 = (mX7_refuses v c).1 ∧ RR (mX6_refuse u c).2 (mX7_refuses v c).2 := by
  obtain ⟨⟨a, b, d⟩, hX, hY, hA, hG, hT⟩ := hR
  exact ⟨rfl, ⟨a, congrArg (· + (1 : Int32)) b, d⟩, hX, hY, hA, hG, hT⟩
theorem sim_finish {u : TS} {v : MS} (hR : RR u v) : (mX6_finish u).1 = (mX7_does v).1 ∧ RR (mX6_finish u).2 (mX7_does v).2 := by
  obtain ⟨⟨a, b, d⟩, hX, hY, hA, hG, hT⟩ := hR
  exact ⟨rfl, ⟨congrArg (· + (1 : Int32)) a, b, d⟩, hX, hY, hA, hG, hT⟩
theorem keeps_L_eq (u : MS) (a0 : Int32) : ∀ (n j : Nat) (v : MS), j + n = 17 → j ≤ 16 → ∃ tP tX tY, mX7_keeps_L u a0 n (nI j) v = (v.1, v.2.1, v.2.2.1, v.2.2.2.1, v.2.2.2.2.1, v.2.2.2.2.2.1, v.2.2.2.2.2.2.1, v.2.2.2.2.2.2.2.1, v.2.2.2.2.2.2.2.2.1, v.2.2.2.2.2.2.2.2.2.1, tP, tX, tY, nI 16, v.2.2.2.2.2.2.2.2.2.2.2.2.2.2.1, v.2.2.2.2.2.2.2.2.2.2.2.2.2.2.2.1, v.2.2.2.2.2.2.2.2.2.2.2.2.2.2.2.2) ∧ ∀ t, t < 16 → tP t = (if j ≤ t then v.2.2.2.2.2.2.2.2.2.2.1 (t + 1) else v.2.2.2.2.2.2.2.2.2.2.1 t) ∧ tX t = (if j ≤ t then v.2.2.2.2.2.2.2.2.2.2.2.1 (t + 1) else v.2.2.2.2.2.2.2.2.2.2.2.1 t) ∧ tY t = (if j ≤ t then v.2.2.2.2.2.2.2.2.2.2.2.2.1 (t + 1) else v.2.2.2.2.2.2.2.2.2.2.2.2.1 t) := by
  intro n
  induction n with
  | zero => intro j v h h2; omega
  | succ n ih =>
    intro j v h h2
    rw [mX7_keeps_L]
    by_cases hj : j = 16
    · rw [if_pos (show (16 : Int32) ≤ nI j by rw [hj]; decide)]
      refine ⟨_, _, _, rfl, ?_⟩
      intro t ht
      rw [if_neg (by omega), if_neg (by omega), if_neg (by omega)]
      exact ⟨rfl, rfl, rfl⟩
    · rw [if_neg (show ¬ (16 : Int32) ≤ nI j from nI_ge (b := 16) (by omega) (by decide)), nI_1, nI_clamp (by omega), nI_clamp (by omega)]
      obtain ⟨tP, tX, tY, e, hh⟩ := ih (j + 1) (v.1, v.2.1, v.2.2.1, v.2.2.2.1, v.2.2.2.2.1, v.2.2.2.2.2.1, v.2.2.2.2.2.2.1, v.2.2.2.2.2.2.2.1, v.2.2.2.2.2.2.2.2.1, v.2.2.2.2.2.2.2.2.2.1, (upd v.2.2.2.2.2.2.2.2.2.2.1 j (v.2.2.2.2.2.2.2.2.2.2.1 (j + 1))), (vp_updL v.2.2.2.2.2.2.2.2.2.2.2.1 j (v.2.2.2.2.2.2.2.2.2.2.2.1 (j + 1))), (upd v.2.2.2.2.2.2.2.2.2.2.2.2.1 j (v.2.2.2.2.2.2.2.2.2.2.2.2.1 (j + 1))), v.2.2.2.2.2.2.2.2.2.2.2.2.2.1, v.2.2.2.2.2.2.2.2.2.2.2.2.2.2.1, v.2.2.2.2.2.2.2.2.2.2.2.2.2.2.2.1, v.2.2.2.2.2.2.2.2.2.2.2.2.2.2.2.2) (by omega) (by omega)
      refine ⟨tP, tX, tY, e, ?_⟩
      intro t ht
      obtain ⟨q1, q2, q3⟩ := hh t ht
      rw [q1, q2, q3]
      show ((if j + 1 ≤ t then (if t + 1 = j then _ else _) else (if t = j then _ else _)) = _) ∧ ((if j + 1 ≤ t then (if t + 1 = j then _ else _) else (if t = j then _ else _)) = _) ∧ ((if j + 1 ≤ t then (if t + 1 = j then _ else _) else (if t = j then _ else _)) = _)
      by_cases h3 : j + 1 ≤ t
      · have c1 : ¬ t + 1 = j := by omega
        have c2 : j ≤ t := by omega
        rw [if_pos h3, if_pos h3, if_pos h3, if_neg c1, if_neg c1, if_neg c1, if_pos c2, if_pos c2, if_pos c2]
        exact ⟨rfl, rfl, rfl⟩
      · rw [if_neg h3, if_neg h3, if_neg h3]
        by_cases h4 : t = j
        · have c2 : j ≤ t := by omega
          rw [if_pos h4, if_pos h4, if_pos h4, if_pos c2, if_pos c2, if_pos c2, h4]
          exact ⟨rfl, rfl, rfl⟩
        · have c2 : ¬ j ≤ t := by omega
          rw [if_neg h4, if_neg h4, if_neg h4, if_neg c2, if_neg c2, if_neg c2]
          exact ⟨rfl, rfl, rfl⟩
theorem keeps_eq (v : MS) (k : Int32) {n : Nat} (hn : n ≤ 16) (ht : v.2.2.2.2.2.2.2.2.2.2.2.2.2.1 = nI n) : ∃ tP tX tY, mX7_keeps v k = (v.1, v.2.1, v.2.2.1, v.2.2.2.1, v.2.2.2.2.1, v.2.2.2.2.2.1, v.2.2.2.2.2.2.1, v.2.2.2.2.2.2.2.1, v.2.2.2.2.2.2.2.2.1, v.2.2.2.2.2.2.2.2.2.1, tP, tX, tY, nI (if n = 16 then 16 else n + 1), v.2.2.2.2.2.2.2.2.2.2.2.2.2.2.1, v.2.2.2.2.2.2.2.2.2.2.2.2.2.2.2.1, v.2.2.2.2.2.2.2.2.2.2.2.2.2.2.2.2) ∧ ∀ t, t < 16 → tP t = (if n = 16 then (if t = 15 then k else v.2.2.2.2.2.2.2.2.2.2.1 (t + 1)) else (if t = n then k else v.2.2.2.2.2.2.2.2.2.2.1 t)) ∧ tX t = (if n = 16 then (if t = 15 then v.1 k.toNatClampNeg else v.2.2.2.2.2.2.2.2.2.2.2.1 (t + 1)) else (if t = n then v.1 k.toNatClampNeg else v.2.2.2.2.2.2.2.2.2.2.2.1 t)) ∧ tY t = (if n = 16 then (if t = 15 then v.2.1 k.toNatClampNeg else v.2.2.2.2.2.2.2.2.2.2.2.2.1 (t + 1)) else (if t = n then v.2.1 k.toNatClampNeg else v.2.2.2.2.2.2.2.2.2.2.2.2.1 t)) := by
  unfold mX7_keeps
  rw [ht, nI_clamp (by omega), nI_1]
  by_cases h16 : n = 16
  · subst h16
    rw [if_pos (show (16 : Int32) < nI (16 + 1) by decide)]
    obtain ⟨tP, tX, tY, e, hh⟩ := keeps_L_eq v k 17 0 (v.1, v.2.1, v.2.2.1, v.2.2.2.1, v.2.2.2.2.1, v.2.2.2.2.2.1, v.2.2.2.2.2.2.1, v.2.2.2.2.2.2.2.1, v.2.2.2.2.2.2.2.2.1, v.2.2.2.2.2.2.2.2.2.1, (upd v.2.2.2.2.2.2.2.2.2.2.1 16 k), (vp_updL v.2.2.2.2.2.2.2.2.2.2.2.1 16 (v.1 k.toNatClampNeg)), (upd v.2.2.2.2.2.2.2.2.2.2.2.2.1 16 (v.2.1 k.toNatClampNeg)), nI (16 + 1), v.2.2.2.2.2.2.2.2.2.2.2.2.2.2.1, v.2.2.2.2.2.2.2.2.2.2.2.2.2.2.2.1, v.2.2.2.2.2.2.2.2.2.2.2.2.2.2.2.2) (by omega) (by omega)
    rw [nI_0] at e
    refine ⟨tP, tX, tY, by rw [e, if_pos rfl], ?_⟩
    intro t h
    obtain ⟨q1, q2, q3⟩ := hh t h
    rw [q1, q2, q3, if_pos (Nat.zero_le t), if_pos (Nat.zero_le t), if_pos (Nat.zero_le t), if_pos rfl, if_pos rfl, if_pos rfl]
    show ((if t + 1 = 16 then _ else _) = _) ∧ ((if t + 1 = 16 then _ else _) = _) ∧ ((if t + 1 = 16 then _ else _) = _)
    by_cases h3 : t = 15
    · have c : t + 1 = 16 := by omega
      rw [if_pos c, if_pos c, if_pos c, if_pos h3, if_pos h3, if_pos h3]
      exact ⟨rfl, rfl, rfl⟩
    · have c : ¬ t + 1 = 16 := by omega
      rw [if_neg c, if_neg c, if_neg c, if_neg h3, if_neg h3, if_neg h3]
      exact ⟨rfl, rfl, rfl⟩
  · rw [if_neg (show ¬ (16 : Int32) < nI (n + 1) from nI_nlt (a := 16) (by omega) (by decide)), if_neg h16]
    refine ⟨_, _, _, rfl, ?_⟩
    intro t h
    rw [if_neg h16, if_neg h16, if_neg h16]
    exact ⟨rfl, rfl, rfl⟩
theorem ring_up : ∀ p, p < 16 → (nI p + (1 : Int32)) - (nI p + (1 : Int32)) / (16 : Int32) * (16 : Int32) = nI ((p + 1) % 16) := by decide +kernel
theorem keep_sim {u : TS} {v : MS} (hR : RR u v) {k : Int32} (hk : vp_in k 8) : ∃ tP tX tY trl, mX7_keeps v k = (v.1, v.2.1, v.2.2.1, v.2.2.2.1, v.2.2.2.2.1, v.2.2.2.2.2.1, v.2.2.2.2.2.2.1, v.2.2.2.2.2.2.2.1, v.2.2.2.2.2.2.2.2.1, v.2.2.2.2.2.2.2.2.2.1, tP, tX, tY, trl, v.2.2.2.2.2.2.2.2.2.2.2.2.2.2.1, v.2.2.2.2.2.2.2.2.2.2.2.2.2.2.2.1, v.2.2.2.2.2.2.2.2.2.2.2.2.2.2.2.2) ∧ RT (mX4_keep u.2.2.2.2.2.1 k (u.2.2.2.1.2.2.2 k.toNatClampNeg) (u.2.2.2.2.1.2.2.2 k.toNatClampNeg)) tP tX tY trl := by
  obtain ⟨hx1, hx2⟩ := hR.2.1 _ (in8 hk)
  obtain ⟨hy1, hy2⟩ := hR.2.2.1 _ (in8 hk)
  obtain ⟨n, p, h1, h2, h3, h4, h5, h6, h7⟩ := hR.2.2.2.2.2
  obtain ⟨tP, tX, tY, e, hh⟩ := keeps_eq v k h1 h3
  refine ⟨tP, tX, tY, _, e, ?_⟩
  rw [hx1, hy1]
  unfold mX4_keep
  rw [h4, h5, ring_up p h2, nI_clamp (by omega)]
  have hin : ∀ j, j < 16 → vp_in (upd u.2.2.2.2.2.1.2.2.1 p k j) 8 := by
    intro j hj
    unfold upd
    split
    · exact hk
    · exact h6 j hj
  by_cases h16 : n = 16
  · subst h16
    rw [if_pos (show (16 : Int32) ≤ nI 16 by decide), if_pos rfl]
    refine ⟨16, (p + 1) % 16, by omega, by omega, rfl, rfl, rfl, hin, ?_⟩
    intro j hj
    obtain ⟨q1, q2, q3⟩ := hh j hj
    rw [if_pos rfl] at q1 q2 q3
    rw [q1, q2, q3]
    show ((if ((p + 1) % 16 + 16 - 16 + j) % 16 = p then _ else _) = _) ∧ ((if ((p + 1) % 16 + 16 - 16 + j) % 16 = p then _ else _) = _) ∧ ((if ((p + 1) % 16 + 16 - 16 + j) % 16 = p then _ else _) = _) ∧ _ ∧ _
    by_cases hj15 : j = 15
    · have c : ((p + 1) % 16 + 16 - 16 + j) % 16 = p := by omega
      rw [if_pos c, if_pos c, if_pos c, if_pos hj15, if_pos hj15, if_pos hj15]
      exact ⟨rfl, rfl, rfl, hx2, hy2⟩
    · have c : ¬ ((p + 1) % 16 + 16 - 16 + j) % 16 = p := by omega
      rw [if_neg c, if_neg c, if_neg c, if_neg hj15, if_neg hj15, if_neg hj15]
      have := h7 (j + 1) (by omega)
      rw [show (p + 16 - 16 + (j + 1)) % 16 = ((p + 1) % 16 + 16 - 16 + j) % 16 by omega] at this
      exact this
  · rw [if_neg (show ¬ (16 : Int32) ≤ nI n from nI_ge (b := 16) (by omega) (by decide)), if_neg h16, nI_1]
    refine ⟨n + 1, (p + 1) % 16, by omega, by omega, rfl, rfl, rfl, hin, ?_⟩
    intro j hj
    obtain ⟨q1, q2, q3⟩ := hh j (by omega)
    rw [if_neg h16] at q1 q2 q3
    rw [q1, q2, q3]
    show ((if ((p + 1) % 16 + 16 - (n + 1) + j) % 16 = p then _ else _) = _) ∧ ((if ((p + 1) % 16 + 16 - (n + 1) + j) % 16 = p then _ else _) = _) ∧ ((if ((p + 1) % 16 + 16 - (n + 1) + j) % 16 = p then _ else _) = _) ∧ _ ∧ _
    by_cases hjn : j = n
    · have c : ((p + 1) % 16 + 16 - (n + 1) + j) % 16 = p := by omega
      rw [if_pos c, if_pos c, if_pos c, if_pos hjn, if_pos hjn, if_pos hjn]
      exact ⟨rfl, rfl, rfl, hx2, hy2⟩
    · have c : ¬ ((p + 1) % 16 + 16 - (n + 1) + j) % 16 = p := by omega
      rw [if_neg c, if_neg c, if_neg c, if_neg hjn, if_neg hjn, if_neg hjn]
      have := h7 j (by omega)
      rw [show (p + 16 - n + j) % 16 = ((p + 1) % 16 + 16 - (n + 1) + j) % 16 by omega] at this
      exact this
theorem RX.put {f xs : Nat → Int64} (h : RX f xs) (i : Nat) {x : Int64} (hx : sz x < 9218868437227405312) : RX (vp_updL f i x) (vp_updL xs i x) := by
  intro k hk
  unfold vp_updL
  split
  · exact ⟨rfl, hx⟩
  · exact h k hk
theorem RY.put {f : Nat → Int64} {ys : Nat → Int32} (h : RY f ys) (i : Nat) {y : Int32} (hy : sz4 y < 2139095040) : RY (vp_updL f i (mX3_widened y)) (upd ys i y) := by
  intro k hk
  unfold vp_updL upd
  split
  · exact ⟨rfl, hy⟩
  · exact h k hk
theorem sim_put {u : TS} {v : MS} (hR : RR u v) {k : Int32} (hk : vp_in k 8) {x : Int64} {y : Int32} (hx : sz x < 9218868437227405312) (hy : sz4 y < 2139095040) {e1 e2 : Int32} (he : e1 = e2) : (mX6_put (u.1, u.2.1, e1, u.2.2.2.1, u.2.2.2.2.1, u.2.2.2.2.2.1, u.2.2.2.2.2.2) k x (mX3_widened y)).1 = (mX7_does ((vp_updL (mX7_keeps v k).1 k.toNatClampNeg x), (upd (mX7_keeps v k).2.1 k.toNatClampNeg y), (mX7_keeps v k).2.2.1, (mX7_keeps v k).2.2.2.1, (mX7_keeps v k).2.2.2.2.1, (mX7_keeps v k).2.2.2.2.2.1, (mX7_keeps v k).2.2.2.2.2.2.1, (mX7_keeps v k).2.2.2.2.2.2.2.1, (mX7_keeps v k).2.2.2.2.2.2.2.2.1, (mX7_keeps v k).2.2.2.2.2.2.2.2.2.1, (mX7_keeps v k).2.2.2.2.2.2.2.2.2.2.1, (mX7_keeps v k).2.2.2.2.2.2.2.2.2.2.2.1, (mX7_keeps v k).2.2.2.2.2.2.2.2.2.2.2.2.1, (mX7_keeps v k).2.2.2.2.2.2.2.2.2.2.2.2.2.1, (mX7_keeps v k).2.2.2.2.2.2.2.2.2.2.2.2.2.2.1, (mX7_keeps v k).2.2.2.2.2.2.2.2.2.2.2.2.2.2.2.1, e2)).1 ∧ RR (mX6_put (u.1, u.2.1, e1, u.2.2.2.1, u.2.2.2.2.1, u.2.2.2.2.2.1, u.2.2.2.2.2.2) k x (mX3_widened y)).2 (mX7_does ((vp_updL (mX7_keeps v k).1 k.toNatClampNeg x), (upd (mX7_keeps v k).2.1 k.toNatClampNeg y), (mX7_keeps v k).2.2.1, (mX7_keeps v k).2.2.2.1, (mX7_keeps v k).2.2.2.2.1, (mX7_keeps v k).2.2.2.2.2.1, (mX7_keeps v k).2.2.2.2.2.2.1, (mX7_keeps v k).2.2.2.2.2.2.2.1, (mX7_keeps v k).2.2.2.2.2.2.2.2.1, (mX7_keeps v k).2.2.2.2.2.2.2.2.2.1, (mX7_keeps v k).2.2.2.2.2.2.2.2.2.2.1, (mX7_keeps v k).2.2.2.2.2.2.2.2.2.2.2.1, (mX7_keeps v k).2.2.2.2.2.2.2.2.2.2.2.2.1, (mX7_keeps v k).2.2.2.2.2.2.2.2.2.2.2.2.2.1, (mX7_keeps v k).2.2.2.2.2.2.2.2.2.2.2.2.2.2.1, (mX7_keeps v k).2.2.2.2.2.2.2.2.2.2.2.2.2.2.2.1, e2)).2 := by
  obtain ⟨tP, tX, tY, trl, e, hT⟩ := keep_sim hR hk
  rw [e]
  unfold mX6_put
  refine sim_finish (v := ((vp_updL v.1 k.toNatClampNeg x), (upd v.2.1 k.toNatClampNeg y), _, _, _, _, _, _, _, _, _, _, _, _, _, _, _)) ⟨⟨hR.1.1, hR.1.2.1, he⟩, hR.2.1.put _ hx, hR.2.2.1.put _ hy, hR.2.2.2.1, hR.2.2.2.2.1, hT⟩
