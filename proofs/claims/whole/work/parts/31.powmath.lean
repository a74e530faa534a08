/-! POWERS: what scaled, floorFromOne and floorBelowOne answer -/
theorem sl5 : ∀ n, n < 32 → ((nI n &&& 31).toBitVec.smod 32).toNat = n := by decide +kernel
theorem bit_i {r i : Nat} (hr : r < 2 ^ 31) (hi : i < 32) : ((nI r >>> (nI i &&& 31)) &&& (1 : Int32)) = nI (r / 2 ^ i % 2) := by
  rw [pk_shrN hr _ i (sl5 i hi), pk_andN (m := 1) (by have := Nat.div_le_self r (2 ^ i); omega) 1 (by decide)]
theorem one_i {i : Nat} (hi : i < 31) : ((1 : Int32) <<< (nI i &&& 31)) = nI (2 ^ i) := by
  have h : 2 ^ i ≤ 2 ^ 30 := Nat.pow_le_pow_right (by decide) (by omega)
  have := pk_shlN (n := 1) (nI i &&& 31) i (sl5 i (by omega)) (by omega)
  rw [Nat.one_mul] at this
  exact this
theorem leap_nI : ∀ i, i < 10 → Ps (mX2_leap (nI i)) ∧ zm (mX2_leap (nI i)) = 2 ^ (1074 + 2 ^ i) := by
  intro i hi
  have : i = 0 ∨ i = 1 ∨ i = 2 ∨ i = 3 ∨ i = 4 ∨ i = 5 ∨ i = 6 ∨ i = 7 ∨ i = 8 ∨ i = 9 := by omega
  rcases this with rfl | rfl | rfl | rfl | rfl | rfl | rfl | rfl | rfl | rfl <;> exact ⟨by unfold Ps; decide +kernel, by decide +kernel⟩
theorem zval_ps {a : UInt64} (h : Ps a) : FP.Core.zval FP.Core.b64 (FP.Core.val64 a) = (zm a : Int) := by
  obtain ⟨c, q, e⟩ := h.fin
  unfold zm FP.Core.zval
  rw [e]; rfl
theorem cv_ps {a b : UInt64} (ha : Ps a) (hb : Ps b) : FP.dcmp a b = some (compare (zm a : Int) (zm b : Int)) := by
  rw [← zval_ps ha, ← zval_ps hb]
  exact FP.Core.dcmp_zval ha.nn hb.nn
theorem cv_lt {a b : UInt64} {op : CmpOp} (ha : Ps a) (hb : Ps b) : Op.cmpValue (FP.dcmp a b) op < 0 ↔ zm a < zm b := by
  rw [cv_ps ha hb]
  rcases Nat.lt_trichotomy (zm a) (zm b) with h | h | h
  · rw [(FP.Core.compare_lt_iff _ _).mpr (by omega)]; exact ⟨fun _ => h, fun _ => (by decide : (-1 : Int32) < 0)⟩
  · rw [(FP.Core.compare_eq_iff _ _).mpr (by omega)]; exact ⟨fun q => absurd q (by decide : ¬ (0 : Int32) < 0), fun q => by omega⟩
  · rw [(FP.Core.compare_gt_iff _ _).mpr (by omega)]; exact ⟨fun q => absurd q (by decide : ¬ (1 : Int32) < 0), fun q => by omega⟩
theorem cv_ge {a b : UInt64} {op : CmpOp} (ha : Ps a) (hb : Ps b) : 0 ≤ Op.cmpValue (FP.dcmp a b) op ↔ zm b ≤ zm a := by
  have h := cv_lt (op := op) ha hb
  rw [Int32.lt_iff_toInt_lt] at h
  rw [Int32.le_iff_toInt_le]
  omega
theorem pw_lt {a b : Nat} : 2 ^ a < 2 ^ b ↔ a < b := Nat.pow_lt_pow_iff_right (by decide)
theorem cpw_lt {c k j : Nat} (hc : c < 2 ^ 53) (h : k + 53 ≤ j) : c * 2 ^ k < 2 ^ j := by
  have h1 : c * 2 ^ k < 2 ^ 53 * 2 ^ k := Nat.mul_lt_mul_of_pos_right hc (Nat.two_pow_pos k)
  rw [← Nat.pow_add] at h1
  exact Nat.lt_of_lt_of_le h1 (Nat.pow_le_pow_right (by decide) (by omega))
theorem cpw_ge {c k j : Nat} (hc : 2 ^ 52 ≤ c) (h : j ≤ k + 52) : 2 ^ j ≤ c * 2 ^ k := by
  have h1 : 2 ^ 52 * 2 ^ k ≤ c * 2 ^ k := Nat.mul_le_mul_right _ hc
  rw [← Nat.pow_add] at h1
  exact Nat.le_trans (Nat.pow_le_pow_right (by decide) (by omega)) h1
theorem half_up (r i : Nat) : r / 2 ^ i = 2 * (r / 2 ^ (i + 1)) + r / 2 ^ i % 2 := by
  rw [Nat.pow_succ, ← Nat.div_div_eq_div_mul]; omega
theorem scaled_upL (a0 : UInt64) (a1 : Int32) (ha : 0 ≤ a1) (r c : Nat) (hr : r < 1024) (hc : c < 2 ^ 53) : ∀ (n i k : Nat), i ≤ 10 → i + n = 11 → k + r / 2 ^ i * 2 ^ i ≤ 2045 → mX2_scaled_L a0 a1 n (nI r) (rp c k) (nI i) = rp c (k + r / 2 ^ i * 2 ^ i) := by
  intro n
  induction n with
  | zero => intro i k h1 h2; omega
  | succ n ih =>
    intro i k hi hn hk
    rw [mX2_scaled_L]
    by_cases h10 : i = 10
    · subst h10
      rw [if_pos (by decide), Nat.div_eq_of_lt hr, Nat.zero_mul, Nat.add_zero]
    · have hlt : i < 10 := by omega
      rw [if_neg (show ¬ (10 : Int32) ≤ nI i from by rw [show (10 : Int32) = nI 10 from rfl, nI_leI (by decide) (by omega)]; omega), bit_i (by omega) (by omega), nI_1]
      have hd := half_up r i
      have hp : 2 ^ (i + 1) = 2 * 2 ^ i := by rw [Nat.pow_succ, Nat.mul_comm]
      rcases Nat.mod_two_eq_zero_or_one (r / 2 ^ i) with hb | hb
      · have hq : r / 2 ^ i * 2 ^ i = r / 2 ^ (i + 1) * 2 ^ (i + 1) := by
          rw [hd, hb, Nat.add_zero, hp, Nat.mul_assoc, Nat.mul_left_comm]
        rw [hb, if_pos (by decide), ih (i + 1) k (by omega) (by omega) (by omega), hq]
      · have hq : r / 2 ^ i * 2 ^ i = r / 2 ^ (i + 1) * 2 ^ (i + 1) + 2 ^ i := by
          rw [hd, hb, hp, Nat.add_mul, Nat.mul_assoc, Nat.mul_left_comm, Nat.one_mul]
        obtain ⟨l1, l2⟩ := leap_nI i hlt
        rw [hb, if_neg (by decide), if_pos ha, rp_mul hc l1 l2 (by omega), ih (i + 1) (k + 2 ^ i) (by omega) (by omega) (by omega), hq]
        congr 1; omega
theorem scaled_downL (a0 : UInt64) (a1 : Int32) (ha : ¬ 0 ≤ a1) (r c : Nat) (hr : r < 1024) (hc : c < 2 ^ 53) : ∀ (n i k : Nat), i ≤ 10 → i + n = 11 → k ≤ 2045 → r / 2 ^ i * 2 ^ i ≤ k → mX2_scaled_L a0 a1 n (nI r) (rp c k) (nI i) = rp c (k - r / 2 ^ i * 2 ^ i) := by
  intro n
  induction n with
  | zero => intro i k h1 h2; omega
  | succ n ih =>
    intro i k hi hn hk0 hk
    rw [mX2_scaled_L]
    by_cases h10 : i = 10
    · subst h10
      rw [if_pos (by decide), Nat.div_eq_of_lt hr, Nat.zero_mul, Nat.sub_zero]
    · have hlt : i < 10 := by omega
      rw [if_neg (show ¬ (10 : Int32) ≤ nI i from by rw [show (10 : Int32) = nI 10 from rfl, nI_leI (by decide) (by omega)]; omega), bit_i (by omega) (by omega), nI_1]
      have hd := half_up r i
      have hp : 2 ^ (i + 1) = 2 * 2 ^ i := by rw [Nat.pow_succ, Nat.mul_comm]
      rcases Nat.mod_two_eq_zero_or_one (r / 2 ^ i) with hb | hb
      · have hq : r / 2 ^ i * 2 ^ i = r / 2 ^ (i + 1) * 2 ^ (i + 1) := by
          rw [hd, hb, Nat.add_zero, hp, Nat.mul_assoc, Nat.mul_left_comm]
        rw [hb, if_pos (by decide), ih (i + 1) k (by omega) (by omega) hk0 (by omega), hq]
      · have hq : r / 2 ^ i * 2 ^ i = r / 2 ^ (i + 1) * 2 ^ (i + 1) + 2 ^ i := by
          rw [hd, hb, hp, Nat.add_mul, Nat.mul_assoc, Nat.mul_left_comm, Nat.one_mul]
        obtain ⟨l1, l2⟩ := leap_nI i hlt
        rw [hb, if_neg (by decide), if_neg ha, rp_div hc l1 l2 hk0 (by omega), ih (i + 1) (k - 2 ^ i) (by omega) (by omega) (by omega) (by omega), hq]
        congr 1; omega
theorem scaled_up {c k r : Nat} (hc : c < 2 ^ 53) (hr : r < 1024) (hk : k + r ≤ 2045) : mX2_scaled (rp c k) (nI r) = rp c (k + r) := by
  have h0 : 0 ≤ nI r := nI_pos' (by omega)
  rw [mX2_scaled, if_pos h0]
  have := scaled_upL (rp c k) (nI r) h0 r c hr hc 11 0 k (by omega) (by omega) (by rw [Nat.pow_zero]; omega)
  rw [Nat.pow_zero, Nat.div_one, Nat.mul_one] at this
  exact this
theorem scaled_down {c k r : Nat} (hc : c < 2 ^ 53) (h0 : 0 < r) (hr : r < 1024) (hk : k ≤ 2045) (hk2 : r ≤ k) : mX2_scaled (rp c k) (-nI r) = rp c (k - r) := by
  have hz : ¬ 0 ≤ -nI r := by
    rw [Int32.le_iff_toInt_le, sb_negT (by omega)]
    have : (0 : Int32).toInt = 0 := by decide
    omega
  rw [mX2_scaled, if_neg hz, Int32.neg_neg]
  have := scaled_downL (rp c k) (-nI r) hz r c hr hc 11 0 k (by omega) (by omega) hk (by rw [Nat.pow_zero]; omega)
  rw [Nat.pow_zero, Nat.div_one, Nat.mul_one] at this
  exact this
theorem ffo_L (a0 : UInt64) (c : Nat) (hc1 : 2 ^ 52 ≤ c) (hc : c < 2 ^ 53) : ∀ (j q k : Nat), j ≤ 10 → k < 2 ^ j → mX2_floorFromOne_L a0 (j + 1) (nI q) (rp c (1022 + k)) (nI j + (-1)) = nI (q + k) := by
  intro j
  induction j with
  | zero =>
    intro q k _ hk
    rw [mX2_floorFromOne_L, if_pos (by decide), show k = 0 by omega, Nat.add_zero]
  | succ j ih =>
    intro q k hj hk
    have hp : 2 ^ j ≤ 2 ^ 9 := Nat.pow_le_pow_right (by decide) (by omega)
    have hp2 : 2 ^ (j + 1) = 2 * 2 ^ j := by rw [Nat.pow_succ, Nat.mul_comm]
    obtain ⟨l1, l2⟩ := leap_nI j (by omega)
    obtain ⟨r1, r2⟩ := rp_ok (c := c) (k := 1022 + k) hc (by omega)
    rw [mX2_floorFromOne_L, pk_m1, if_neg (nI_pos (by omega))]
    by_cases hkj : k < 2 ^ j
    · rw [if_pos ((cv_lt r1 l1).mpr (by rw [r2, l2]; exact cpw_lt hc (by omega))), ih q k (by omega) hkj]
    · rw [if_neg (fun h => absurd ((cv_lt r1 l1).mp h) (by rw [r2, l2]; exact Nat.not_lt.mpr (cpw_ge hc1 (by omega)))), one_i (by omega), nI_add, rp_div hc l1 l2 (by omega) (by omega), show 1022 + k - 2 ^ j = 1022 + (k - 2 ^ j) by omega, ih _ _ (by omega) (by omega)]
      congr 1; omega
theorem ffo {c k : Nat} (hc1 : 2 ^ 52 ≤ c) (hc : c < 2 ^ 53) (hk : k < 1024) : mX2_floorFromOne (rp c (1022 + k)) = nI k := by
  have := ffo_L (rp c (1022 + k)) c hc1 hc 10 0 k (by omega) hk
  rw [Nat.zero_add] at this
  exact this
theorem neg_sub_nI {t d : Nat} : -nI t - nI d = -nI (t + d) := by
  rw [← nI_add]; exact Int32.neg_add.symm
theorem fbo_L (a0 : UInt64) (c : Nat) (hc : c < 2 ^ 53) : ∀ (j t k d : Nat), j ≤ 10 → k + d = 1022 → d < 2 ^ j → t ≤ k → (2 ^ 52 ≤ c ∨ t = k ∧ c < 2 ^ 52) → mX2_floorBelowOne_L a0 (-1022) (j + 1) (-nI t) (rp c k) (nI j + (-1)) = -nI (t + d) := by
  intro j
  induction j with
  | zero =>
    intro t k d _ h1 hd _ _
    rw [mX2_floorBelowOne_L, if_pos (by decide), show d = 0 by omega, Nat.add_zero]
  | succ j ih =>
    intro t k d hj h1 hd ht hcase
    have hp : 2 ^ j ≤ 2 ^ 9 := Nat.pow_le_pow_right (by decide) (by omega)
    have hp2 : 2 ^ (j + 1) = 2 * 2 ^ j := by rw [Nat.pow_succ, Nat.mul_comm]
    obtain ⟨l1, l2⟩ := leap_nI j (by omega)
    obtain ⟨r1, r2⟩ := rp_ok (c := c) (k := k + 2 ^ j) hc (by omega)
    have p2 : Ps 4611686018427387904 ∧ zm 4611686018427387904 = 2 ^ 1075 := ⟨by unfold Ps; decide +kernel, by decide +kernel⟩
    rw [mX2_floorBelowOne_L, pk_m1, if_neg (nI_pos (by omega)), one_i (by omega), neg_sub_nI, rp_mul hc l1 l2 (by omega)]
    have hcmp : -nI (t + 2 ^ j) < -1022 ↔ 1022 < t + 2 ^ j := by
      rw [show (-1022 : Int32) = -nI 1022 by decide, sb_nlt (by omega) (by omega)]
    by_cases hdj : 2 ^ j ≤ d
    · rw [if_neg (fun h => absurd (hcmp.mp h) (by omega)), if_neg (fun h => absurd ((cv_ge r1 p2.1).mp h) (by rw [r2, p2.2]; exact Nat.not_le.mpr (cpw_lt hc (by omega)))), ih (t + 2 ^ j) (k + 2 ^ j) (d - 2 ^ j) (by omega) (by omega) (by omega) (by omega) (by omega)]
      congr 2; omega
    · rcases Nat.lt_or_ge 1022 (t + 2 ^ j) with h2 | h2
      · rw [if_pos (hcmp.mpr h2), ih t k d (by omega) h1 (by omega) ht hcase]
      · rw [if_neg (fun h => absurd (hcmp.mp h) (by omega)), if_pos ((cv_ge r1 p2.1).mpr (by rw [r2, p2.2]; exact cpw_ge (by rcases hcase with h | h <;> omega) (by omega))), ih t k d (by omega) h1 (by omega) ht hcase]
theorem fbo {c k : Nat} (hc : c < 2 ^ 53) (hk : k ≤ 1022) (hcase : 2 ^ 52 ≤ c ∨ k = 0 ∧ c < 2 ^ 52) : mX2_floorBelowOne (rp c k) (-1022) = -nI (1022 - k) := by
  have := fbo_L (rp c k) c hc 10 0 k (1022 - k) (by omega) (by omega) (by omega) (by omega) (by omega)
  rw [Nat.zero_add] at this
  exact this
