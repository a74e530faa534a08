/-! ORDER: signs, sizes, ranks -/
theorem un_lt (a : Int64) : a.toUInt64.toNat < 2 ^ 64 := a.toUInt64.toBitVec.isLt
theorem lN_un (a : Int64) : a = lN a.toUInt64.toNat := by
  obtain ⟨n, hn, rfl⟩ := wb_of a
  rw [lN_tu hn]
theorem un_inj {a b : Int64} (h : a.toUInt64.toNat = b.toUInt64.toNat) : a = b := by rw [lN_un a, lN_un b, h]
theorem toInt_lN {n : Nat} (h : n < 2 ^ 64) : (lN n).toInt = if n < 2 ^ 63 then (n : Int) else (n : Int) - 2 ^ 64 := by
  have h1 : (lN n).toInt = (lN n).toBitVec.toInt := rfl
  rw [h1, wb_tb, BitVec.toInt_eq_toNat_cond, BitVec.toNat_ofNat, Nat.mod_eq_of_lt h]
  by_cases h2 : n < 2 ^ 63
  · rw [if_pos h2, if_pos (by omega)]
  · rw [if_neg h2, if_neg (by omega)]; rfl
theorem i64_0 : (0 : Int64).toInt = 0 := by decide
theorem neg_iff (a : Int64) : 0 ≤ lg_cmp a 0 ↔ a.toUInt64.toNat < 2 ^ 63 := by
  rw [lg_cmp_ge, Int64.le_iff_toInt_le, i64_0, lN_un a, lN_tu (un_lt a), toInt_lN (un_lt a)]
  have := un_lt a
  split <;> omega
/-- the number as a whole number with a sign, -0 below 0 -/
def ky (a : Int64) : Int := if a.toUInt64.toNat < 2 ^ 63 then (sz a : Int) else -1 - (sz a : Int)
theorem ky_inj {a b : Int64} (h : ky a = ky b) : a = b := by
  have h1 := un_lt a
  have h2 := un_lt b
  apply un_inj
  unfold ky sz at h
  split at h <;> split at h <;> omega
theorem order_ky (a : Int64) : (mX7_order a).toInt = ky a := by
  unfold mX7_order ky
  have h1 := un_lt a
  by_cases h : a.toUInt64.toNat < 2 ^ 63
  · rw [if_pos ((neg_iff a).mpr h), if_pos h]
    have : sz a = a.toUInt64.toNat := Nat.mod_eq_of_lt h
    rw [this, ← pk_lT (n := a.toUInt64.toNat) h, ← lN_un a]
  · rw [if_neg (fun q => h ((neg_iff a).mp q)), if_neg h]
    unfold mX7_size
    have h3 := sz_lt a
    rw [and_size, Int64.toInt_sub, pk_lT h3, show (-1 : Int64).toInt = -1 from by decide, Int.bmod_eq_of_le (by omega) (by omega)]
theorem rank_order (a : Int64) : mX1_rank a = mX7_order a := by
  unfold mX1_rank mX7_order
  by_cases h : 0 ≤ lg_cmp a 0
  · rw [if_pos h, if_pos h]
  · rw [if_neg h, if_neg h]
    rw [neg_iff] at h
    unfold mX7_size
    apply wb_inj
    show a.toBitVec ^^^ 9223372036854775807#64 = (-1 : Int64).toBitVec - (a.toBitVec &&& 9223372036854775807#64)
    have h2 : a.toBitVec.getLsbD 63 = true := by
      have : a.toBitVec.toNat = a.toUInt64.toNat := rfl
      rw [BitVec.getLsbD, Nat.testBit_eq_decide_div_mod_eq, this]
      have h9 := un_lt a
      exact decide_eq_true (by omega)
    have h3 : (-1 : Int64).toBitVec - (a.toBitVec &&& 9223372036854775807#64) = ~~~ (a.toBitVec &&& 9223372036854775807#64) := by
      rw [BitVec.not_eq_neg_add, show (-1 : Int64).toBitVec = - 1#64 from by decide, BitVec.sub_eq_add_neg, BitVec.add_comm, ← BitVec.sub_eq_add_neg]
    rw [h3]
    apply BitVec.eq_of_getLsbD_eq
    intro i hi
    simp only [BitVec.getLsbD_xor, BitVec.getLsbD_not, BitVec.getLsbD_and]
    have h4 : (9223372036854775807#64).getLsbD i = decide (i < 63) := by
      have : (9223372036854775807#64) = BitVec.ofNat 64 (2 ^ 63 - 1) := by decide
      rw [this, BitVec.getLsbD_ofNat, Nat.testBit_two_pow_sub_one]
      simp [hi]
    rw [h4]
    by_cases h5 : i < 63
    · simp [h5, hi]
    · have : i = 63 := by omega
      subst this
      simp [h2]
theorem rank_ky (a : Int64) : (mX1_rank a).toInt = ky a := by rw [rank_order, order_ky]
theorem lesser_ky (a b : Int64) : mX1_lesser a b = if ky a ≤ ky b then a else b := by
  unfold mX1_lesser
  have h : 0 < lg_cmp (mX1_rank a) (mX1_rank b) ↔ ¬ ky a ≤ ky b := by
    rw [lg_cmp_gt, Int64.lt_iff_toInt_lt, rank_ky, rank_ky]; omega
  by_cases h1 : ky a ≤ ky b
  · rw [if_neg (fun q => h.mp q h1), if_pos h1]
  · rw [if_pos (h.mpr h1), if_neg h1]
theorem greater_ky (a b : Int64) : mX1_greater a b = if ky b ≤ ky a then a else b := by
  unfold mX1_greater
  have h : lg_cmp (mX1_rank a) (mX1_rank b) < 0 ↔ ¬ ky b ≤ ky a := by
    rw [lg_cmp_lt, Int64.lt_iff_toInt_lt, rank_ky, rank_ky]; omega
  by_cases h1 : ky b ≤ ky a
  · rw [if_neg (fun q => h.mp q h1), if_pos h1]
  · rw [if_pos (h.mpr h1), if_neg h1]
theorem mlesser_ky (a b : Int64) : mX7_lesser a b = if ky a ≤ ky b then a else b := by
  unfold mX7_lesser
  have h : 0 ≤ lg_cmp (mX7_order a) (mX7_order b) ↔ ky b ≤ ky a := by
    rw [lg_cmp_ge, Int64.le_iff_toInt_le, order_ky, order_ky]
  by_cases h1 : ky b ≤ ky a
  · rw [if_pos (h.mpr h1)]
    by_cases h2 : ky a ≤ ky b
    · rw [if_pos h2, ky_inj (Int.le_antisymm h2 h1)]
    · rw [if_neg h2]
  · rw [if_neg (fun q => h1 (h.mp q)), if_pos (by omega)]
theorem mgreater_ky (a b : Int64) : mX7_greater a b = if ky b ≤ ky a then a else b := by
  unfold mX7_greater
  have h : lg_cmp (mX7_order a) (mX7_order b) ≤ 0 ↔ ky a ≤ ky b := by
    rw [lg_cmp_le, Int64.le_iff_toInt_le, order_ky, order_ky]
  by_cases h1 : ky a ≤ ky b
  · rw [if_pos (h.mpr h1)]
    by_cases h2 : ky b ≤ ky a
    · rw [if_pos h2, ky_inj (Int.le_antisymm h1 h2)]
    · rw [if_neg h2]
  · rw [if_neg (fun q => h1 (h.mp q)), if_pos (by omega)]
theorem lesser_eq (a b : Int64) : mX1_lesser a b = mX7_lesser a b := by rw [lesser_ky, mlesser_ky]
theorem greater_eq (a b : Int64) : mX1_greater a b = mX7_greater a b := by rw [greater_ky, mgreater_ky]
theorem isNone_iff (a : Int64) : mX7_isNone a = 0 ↔ sz a ≤ 9218868437227405312 := by
  unfold mX7_isNone mX7_size
  rw [and_size]
  have h1 := sz_lt a
  have h2 : lg_cmp (lN (sz a)) (9218868437227405312 : Int64) ≤ 0 ↔ sz a ≤ 9218868437227405312 := by
    rw [lg_cmp_le, show (9218868437227405312 : Int64) = lN 9218868437227405312 from rfl, pk_lLE h1 (by decide)]
  split
  · rename_i h; exact ⟨fun _ => h2.mp h, fun _ => rfl⟩
  · rename_i h; exact ⟨fun q => absurd q (by decide), fun q => absurd (h2.mpr q) h⟩
