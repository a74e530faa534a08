/-! THE MODEL'S WHOLE OF A FLOAT, in numbers -/
def ng4 (y : Int32) : Bool := decide (2 ^ 31 ≤ y.toUInt32.toNat)
def sgb4 (b : Bool) (x : Nat) : Int32 := nI ((if b = true then 2 ^ 31 else 0) + x)
theorem ng4_t {y : Int32} : ng4 y = true ↔ ¬ y.toUInt32.toNat < 2 ^ 31 := by unfold ng4; rw [decide_eq_true_iff]; omega
theorem sgb4_self (y : Int32) : y = sgb4 (ng4 y) (sz4 y) := by
  have h := un4_lt y
  unfold sgb4
  by_cases h1 : y.toUInt32.toNat < 2 ^ 31
  · have h2 : ¬ ng4 y = true := fun q => ng4_t.mp q h1
    rw [if_neg h2, Nat.zero_add]
    have : sz4 y = y.toUInt32.toNat := Nat.mod_eq_of_lt h1
    rw [this]; exact nI_un y
  · rw [if_pos (ng4_t.mpr h1)]
    have : 2 ^ 31 + sz4 y = y.toUInt32.toNat := by unfold sz4; omega
    rw [this]; exact nI_un y
theorem sgb4_sz {b : Bool} {x : Nat} (h : x < 2 ^ 31) : sz4 (sgb4 b x) = x ∧ ng4 (sgb4 b x) = b := by
  unfold sgb4
  have hl : (if b = true then 2 ^ 31 else 0) + x < 2 ^ 32 := by split <;> omega
  unfold sz4 ng4
  rw [nI_tu hl]
  refine ⟨by split <;> omega, ?_⟩
  cases b
  · exact decide_eq_false (by rw [if_neg (by decide)]; omega)
  · exact decide_eq_true (by rw [if_pos rfl]; omega)
theorem n4_inj {a b : Int32} (h : a.toUInt32.toNat = b.toUInt32.toNat) : a = b := by rw [nI_un a, nI_un b, h]
theorem nI_or {a b : Nat} (ha : a < 2 ^ 32) (hb : b < 2 ^ 32) : nI a ||| nI b = nI (a ||| b) := by
  apply n4_inj
  rw [nI_tu (Nat.or_lt_two_pow ha hb)]
  show ((nI a).toBitVec ||| (nI b).toBitVec).toNat = _
  rw [BitVec.toNat_or, pk_tn ha, pk_tn hb]
theorem nI_and {a b : Nat} (ha : a < 2 ^ 32) (hb : b < 2 ^ 32) : nI a &&& nI b = nI (a &&& b) := by
  apply n4_inj
  rw [nI_tu (Nat.and_lt_two_pow a hb)]
  show ((nI a).toBitVec &&& (nI b).toBitVec).toNat = _
  rw [BitVec.toNat_and, pk_tn ha, pk_tn hb]
theorem and_31 {n : Nat} (h : n < 2 ^ 32) : n &&& 2 ^ 31 = if n < 2 ^ 31 then 0 else 2 ^ 31 := by
  apply Nat.eq_of_testBit_eq
  intro i
  rw [Nat.testBit_and, Nat.testBit_two_pow]
  by_cases hi : 31 = i
  · subst hi
    rw [Nat.testBit_eq_decide_div_mod_eq]
    by_cases h2 : n < 2 ^ 31
    · rw [if_pos h2, decide_eq_false (by omega)]; simp
    · rw [if_neg h2, decide_eq_true (by omega), Nat.testBit_two_pow]; rfl
  · rw [decide_eq_false hi, Bool.and_false]
    split
    · simp
    · rw [Nat.testBit_two_pow, decide_eq_false hi]
theorem and_sign4 (y : Int32) : y &&& (-2147483648 : Int32) = nI (if ng4 y = true then 2 ^ 31 else 0) := by
  have h := un4_lt y
  have h1 : (-2147483648 : Int32) = nI (2 ^ 31) := by decide
  rw [h1]
  conv => lhs; rw [nI_un y]
  rw [nI_and h (by decide), and_31 h]
  by_cases h2 : y.toUInt32.toNat < 2 ^ 31
  · rw [if_neg (fun q => ng4_t.mp q h2), if_pos h2]
  · rw [if_pos (ng4_t.mpr h2), if_neg h2]
theorem or_sgn4 (y : Int32) {x : Nat} (hx : x < 2 ^ 31) : (y &&& (-2147483648 : Int32)) ||| nI x = sgb4 (ng4 y) x := by
  rw [and_sign4]
  unfold sgb4
  by_cases h : ng4 y = true
  · rw [if_pos h, nI_or (by decide) (by omega)]
    have := Nat.two_pow_add_eq_or_of_lt hx 1
    rw [Nat.mul_one] at this
    rw [← this]
  · rw [if_neg h, nI_or (by decide) (by omega), Nat.zero_add, Nat.zero_or]
theorem sgn_zero4 (y : Int32) : (y &&& (-2147483648 : Int32)) = 0 ↔ ¬ ng4 y = true := by
  rw [and_sign4]
  by_cases h : ng4 y = true
  · rw [if_pos h]; exact ⟨fun q => absurd q (by decide), fun q => absurd h q⟩
  · rw [if_neg h]; exact ⟨fun _ => h, fun _ => rfl⟩
theorem nI_sar {n k : Nat} (hn : n < 2 ^ 31) (hk : k < 32) : nI n >>> (nI k &&& 31) = nI (n / 2 ^ k) := pk_shrN hn _ k (sl5 k hk)
theorem nI_msk {n k : Nat} (hn : n < 2 ^ 32) (hk : k < 32) : nI n &&& nI (2 ^ k - 1) = nI (n % 2 ^ k) := pk_andN hn k (by
  have : 2 ^ k ≤ 2 ^ 31 := Nat.pow_le_pow_right (by decide) (by omega)
  exact pk_tn (by omega))
theorem whole4_C67 {a : Int32} {way : Nat} (hw : way ≤ 3) (w : Int32) (h0 : 0 < sz4 a) (h1 : sz4 a < 150 * 2 ^ 23) : mX7_whole4_C67 a (nI way) w = sgb4 (ng4 a) (if sz4 a < 127 * 2 ^ 23 then (if (way = 2 ∧ 126 * 2 ^ 23 < sz4 a) ∨ (¬ way = 2 ∧ ¬ w = 0) then 127 * 2 ^ 23 else 0) else if sz4 a % 2 ^ (23 - (sz4 a / 2 ^ 23 - 127)) = 0 then sz4 a else if (way = 2 ∧ (2 ^ (23 - (sz4 a / 2 ^ 23 - 127)) / 2 < sz4 a % 2 ^ (23 - (sz4 a / 2 ^ 23 - 127)) ∨ sz4 a % 2 ^ (23 - (sz4 a / 2 ^ 23 - 127)) = 2 ^ (23 - (sz4 a / 2 ^ 23 - 127)) / 2 ∧ (sz4 a / 2 ^ 23 - 127 = 0 ∨ (sz4 a - sz4 a % 2 ^ (23 - (sz4 a / 2 ^ 23 - 127))) / 2 ^ (23 - (sz4 a / 2 ^ 23 - 127)) % 2 = 1))) ∨ (¬ way = 2 ∧ ¬ w = 0) then sz4 a - sz4 a % 2 ^ (23 - (sz4 a / 2 ^ 23 - 127)) + 2 ^ (23 - (sz4 a / 2 ^ 23 - 127)) else sz4 a - sz4 a % 2 ^ (23 - (sz4 a / 2 ^ 23 - 127))) := by
  have hsz : mX7_size4 a = nI (sz4 a) := and_size4 a
  have hE : nI (sz4 a) >>> ((23 : Int32) &&& 31) = nI (sz4 a / 2 ^ 23) := nI_sar (k := 23) (by omega) (by decide)
  have hself := sgb4_self a
  have hw2 : nI way = (2 : Int32) ↔ way = 2 := by rw [show (2 : Int32) = nI 2 from rfl, nI_eq (by omega) (by decide)]
  have c0 : 0 ≤ nI (sz4 a / 2 ^ 23) - (127 : Int32) ↔ 127 ≤ sz4 a / 2 ^ 23 := by
    rw [Int32.le_iff_toInt_le, i32_0, show (127 : Int32) = nI 127 from rfl, pk_sub_toInt (by omega) (by decide)]; omega
  unfold mX7_whole4_C67
  rw [hsz, hE]
  by_cases hl : sz4 a < 127 * 2 ^ 23
  · rw [if_neg (fun q => absurd (c0.mp q) (by omega)), if_pos hl]
    have hC : ∀ v : Int32, mX7_whole4_C90 a (nI way) w v = sgb4 (ng4 a) (if v = 0 then 0 else 127 * 2 ^ 23) := by
      intro v
      unfold mX7_whole4_C90
      by_cases hv : v = 0
      · rw [if_pos hv, if_pos hv]; exact or_sgn4 a (x := 0) (by decide)
      · rw [if_neg hv, if_neg hv]; exact or_sgn4 a (x := 127 * 2 ^ 23) (by decide)
    have hh : nI (sz4 a) ≤ (1056964608 : Int32) ↔ sz4 a ≤ 126 * 2 ^ 23 := by
      rw [show (1056964608 : Int32) = nI (126 * 2 ^ 23) from by decide, nI_leI (by omega) (by decide)]
    by_cases h2 : way = 2
    · rw [if_pos (hw2.mpr h2)]
      by_cases h3 : sz4 a ≤ 126 * 2 ^ 23
      · rw [if_pos (hh.mpr h3), hC, if_pos rfl, if_neg (by omega)]
      · rw [if_neg (fun q => h3 (hh.mp q)), hC, if_neg (by decide), if_pos (by omega)]
    · rw [if_neg (fun q => h2 (hw2.mp q)), hC]
      by_cases h3 : w = 0
      · rw [if_pos h3, if_neg (by rintro (q | q); exact h2 q.1; exact q.2 h3)]
      · rw [if_neg h3, if_pos (Or.inr ⟨h2, h3⟩)]
  · have hEg : 127 ≤ sz4 a / 2 ^ 23 := by omega
    have hEl : sz4 a / 2 ^ 23 < 150 := by omega
    rw [if_pos (c0.mpr hEg), if_neg hl]
    have hU : (1 : Int32) <<< (((23 : Int32) - (nI (sz4 a / 2 ^ 23) - (127 : Int32))) &&& 31) = nI (2 ^ (23 - (sz4 a / 2 ^ 23 - 127))) := by
      have e1 : (23 : Int32) - (nI (sz4 a / 2 ^ 23) - (127 : Int32)) = nI (23 - (sz4 a / 2 ^ 23 - 127)) := by
        rw [show (127 : Int32) = nI 127 from rfl, pk_sub hEg, show (23 : Int32) = nI 23 from rfl, pk_sub (by omega)]
      rw [e1, one_i (by omega)]
    have e2 : nI (sz4 a / 2 ^ 23) - (127 : Int32) = nI (sz4 a / 2 ^ 23 - 127) := pk_sub hEg
    rw [hU]
    have hpe : 23 - (sz4 a / 2 ^ 23 - 127) < 32 := by omega
    have hUb : 2 ^ (23 - (sz4 a / 2 ^ 23 - 127)) ≤ 2 ^ 23 := Nat.pow_le_pow_right (by decide) (by omega)
    have hUp := Nat.two_pow_pos (23 - (sz4 a / 2 ^ 23 - 127))
    have hM1 : nI (2 ^ (23 - (sz4 a / 2 ^ 23 - 127))) - (1 : Int32) = nI (2 ^ (23 - (sz4 a / 2 ^ 23 - 127)) - 1) := by
      rw [show (1 : Int32) = nI 1 from rfl, pk_sub (by omega)]
    have hR : nI (sz4 a) &&& nI (2 ^ (23 - (sz4 a / 2 ^ 23 - 127)) - 1) = nI (sz4 a % 2 ^ (23 - (sz4 a / 2 ^ 23 - 127))) := nI_msk (by omega) hpe
    rw [hM1, hR]
    have hrl := Nat.mod_lt (sz4 a) hUp
    have hrm := Nat.mod_le (sz4 a) (2 ^ (23 - (sz4 a / 2 ^ 23 - 127)))
    have hOdd : ((nI (sz4 a - sz4 a % 2 ^ (23 - (sz4 a / 2 ^ 23 - 127))) >>> (((23 : Int32) - nI (sz4 a / 2 ^ 23 - 127)) &&& 31)) &&& (1 : Int32)) = (1 : Int32) ↔ (sz4 a - sz4 a % 2 ^ (23 - (sz4 a / 2 ^ 23 - 127))) / 2 ^ (23 - (sz4 a / 2 ^ 23 - 127)) % 2 = 1 := by
      have q1 : (23 : Int32) - nI (sz4 a / 2 ^ 23 - 127) = nI (23 - (sz4 a / 2 ^ 23 - 127)) := by rw [show (23 : Int32) = nI 23 from rfl, pk_sub (by omega)]
      rw [q1, bit_i (by omega) hpe, show (1 : Int32) = nI 1 from rfl, nI_eq (by omega) (by decide)]
    have q0 : nI (sz4 a / 2 ^ 23 - 127) = 0 ↔ sz4 a / 2 ^ 23 - 127 = 0 := by rw [show (0 : Int32) = nI 0 from rfl, nI_eq (by omega) (by decide)]
    have hcut : nI (sz4 a) - nI (sz4 a % 2 ^ (23 - (sz4 a / 2 ^ 23 - 127))) = nI (sz4 a - sz4 a % 2 ^ (23 - (sz4 a / 2 ^ 23 - 127))) := pk_sub hrm
    have hC : ∀ v : Int32, mX7_whole4_C182 a (nI way) w v = sgb4 (ng4 a) (if v = 0 then sz4 a - sz4 a % 2 ^ (23 - (sz4 a / 2 ^ 23 - 127)) else sz4 a - sz4 a % 2 ^ (23 - (sz4 a / 2 ^ 23 - 127)) + 2 ^ (23 - (sz4 a / 2 ^ 23 - 127))) := by
      intro v
      unfold mX7_whole4_C182
      rw [hsz, hE, hU, hM1, hR, hcut, nI_add]
      by_cases hv : v = 0
      · rw [if_pos hv, if_pos hv]; exact or_sgn4 a (by omega)
      · rw [if_neg hv, if_neg hv]; exact or_sgn4 a (by omega)
    rw [e2, hcut]
    generalize hUe : 2 ^ (23 - (sz4 a / 2 ^ 23 - 127)) = U at *
    generalize hRe : sz4 a % U = r at *
    have hdv : nI U / (2 : Int32) = nI (U / 2) := by rw [show (2 : Int32) = nI 2 from rfl, pk_div (by omega) (by decide) (by decide)]
    have g0 : nI r = 0 ↔ r = 0 := by rw [show (0 : Int32) = nI 0 from rfl, nI_eq (by omega) (by decide)]
    have g1 : nI (U / 2) < nI r ↔ U / 2 < r := nI_ltI (by omega) (by omega)
    have g2 : nI r = nI (U / 2) ↔ r = U / 2 := nI_eq (by omega) (by omega)
    rw [hdv]
    by_cases hr0 : r = 0
    · rw [if_pos (g0.mpr hr0), if_pos hr0]; exact hself
    · rw [if_neg (fun q => hr0 (g0.mp q)), if_neg hr0]
      by_cases h2 : way = 2
      · rw [if_pos (hw2.mpr h2)]
        by_cases k1 : U / 2 < r
        · rw [if_pos (g1.mpr k1), hC, if_neg (by decide), if_pos (Or.inl ⟨h2, Or.inl k1⟩)]
        · rw [if_neg (fun q => k1 (g1.mp q))]
          by_cases k2 : r = U / 2
          · rw [if_pos (g2.mpr k2)]
            by_cases k4 : sz4 a / 2 ^ 23 - 127 = 0
            · rw [if_pos (q0.mpr k4), hC, if_neg (by decide), if_pos (Or.inl ⟨h2, Or.inr ⟨k2, Or.inl k4⟩⟩)]
            · rw [if_neg (fun q => k4 (q0.mp q))]
              by_cases k5 : (sz4 a - r) / U % 2 = 1
              · rw [if_pos (hOdd.mpr k5), hC, if_neg (by decide), if_pos (Or.inl ⟨h2, Or.inr ⟨k2, Or.inr k5⟩⟩)]
              · rw [if_neg (fun q => k5 (hOdd.mp q)), hC, if_pos rfl, if_neg (by rintro (⟨_, q | q⟩ | q); exact k1 q; exact q.2.elim k4 k5; exact q.1 h2)]
          · rw [if_neg (fun q => k2 (g2.mp q)), hC, if_pos rfl, if_neg (by rintro (⟨_, q | q⟩ | q); exact k1 q; exact k2 q.1; exact q.1 h2)]
      · rw [if_neg (fun q => h2 (hw2.mp q)), hC]
        by_cases k1 : w = 0
        · rw [if_pos k1, if_neg (by rintro (q | q); exact h2 q.1; exact q.2 k1)]
        · rw [if_neg k1, if_pos (Or.inr ⟨h2, k1⟩)]
theorem mwhole4 {a : Int32} {way : Nat} (hw : way ≤ 3) (h : sz4 a ≤ 2139095040) : mX7_whole4 a (nI way) = sgb4 (ng4 a) (wN 23 127 (ng4 a) way (sz4 a)) := by
  have hsz : mX7_size4 a = nI (sz4 a) := and_size4 a
  have hE : nI (sz4 a) >>> ((23 : Int32) &&& 31) = nI (sz4 a / 2 ^ 23) := nI_sar (k := 23) (by omega) (by decide)
  have c52 : (23 : Int32) ≤ nI (sz4 a / 2 ^ 23) - (127 : Int32) ↔ 150 ≤ sz4 a / 2 ^ 23 := by
    rw [Int32.le_iff_toInt_le, show (127 : Int32) = nI 127 from rfl, pk_sub_toInt (by omega) (by decide), show (23 : Int32).toInt = 23 from by decide]; omega
  have cz : nI (sz4 a) = 0 ↔ sz4 a = 0 := by rw [show (0 : Int32) = nI 0 from rfl, nI_eq (by omega) (by decide)]
  unfold mX7_whole4 wN
  rw [hsz, hE]
  by_cases k1 : 150 ≤ sz4 a / 2 ^ 23
  · rw [if_pos (c52.mpr k1), if_pos (Or.inl (by omega))]; exact sgb4_self a
  · rw [if_neg (fun q => k1 (c52.mp q))]
    by_cases k2 : sz4 a = 0
    · rw [if_pos (cz.mpr k2), if_pos (Or.inr k2)]; exact sgb4_self a
    · rw [if_neg (fun q => k2 (cz.mp q)), if_neg (show ¬ (127 * 2 ^ 23 + 23 * 2 ^ 23 ≤ sz4 a ∨ sz4 a = 0) by omega)]
      have hC := fun w => whole4_C67 (a := a) hw w (by omega) (by omega)
      unfold wR
      have w0 : nI way = 0 ↔ way = 0 := by rw [show (0 : Int32) = nI 0 from rfl, nI_eq (by omega) (by decide)]
      have w1 : nI way = (1 : Int32) ↔ way = 1 := by rw [show (1 : Int32) = nI 1 from rfl, nI_eq (by omega) (by decide)]
      have fin : ∀ w : Int32, (¬ way = 2 → (¬ w = 0 ↔ (way = 0 ∧ ng4 a = true) ∨ (way = 1 ∧ ng4 a = false))) → mX7_whole4_C67 a (nI way) w = sgb4 (ng4 a) (if sz4 a < 127 * 2 ^ 23 then (if (way = 0 ∧ ng4 a = true) ∨ (way = 1 ∧ ng4 a = false) ∨ (way = 2 ∧ (127 - 1) * 2 ^ 23 < sz4 a) then 127 * 2 ^ 23 else 0) else if sz4 a % 2 ^ (23 - (sz4 a / 2 ^ 23 - 127)) = 0 then sz4 a else if (way = 0 ∧ ng4 a = true) ∨ (way = 1 ∧ ng4 a = false) ∨ (way = 2 ∧ (2 ^ (23 - (sz4 a / 2 ^ 23 - 127)) / 2 < sz4 a % 2 ^ (23 - (sz4 a / 2 ^ 23 - 127)) ∨ sz4 a % 2 ^ (23 - (sz4 a / 2 ^ 23 - 127)) = 2 ^ (23 - (sz4 a / 2 ^ 23 - 127)) / 2 ∧ (sz4 a / 2 ^ 23 - 127 = 0 ∨ (sz4 a - sz4 a % 2 ^ (23 - (sz4 a / 2 ^ 23 - 127))) / 2 ^ (23 - (sz4 a / 2 ^ 23 - 127)) % 2 = 1))) then sz4 a - sz4 a % 2 ^ (23 - (sz4 a / 2 ^ 23 - 127)) + 2 ^ (23 - (sz4 a / 2 ^ 23 - 127)) else sz4 a - sz4 a % 2 ^ (23 - (sz4 a / 2 ^ 23 - 127))) := by
        intro w hww
        rw [hC w]
        have key : ∀ X : Prop, ((way = 2 ∧ X) ∨ (¬ way = 2 ∧ ¬ w = 0)) ↔ ((way = 0 ∧ ng4 a = true) ∨ (way = 1 ∧ ng4 a = false) ∨ (way = 2 ∧ X)) := by
          intro X
          by_cases h2 : way = 2
          · constructor
            · rintro (q | q)
              · exact Or.inr (Or.inr q)
              · exact absurd h2 q.1
            · rintro (q | q | q)
              · exact absurd q.1 (by omega)
              · exact absurd q.1 (by omega)
              · exact Or.inl q
          · have := hww h2
            constructor
            · rintro (q | q)
              · exact absurd q.1 h2
              · exact (this.mp q.2).elim Or.inl (fun z => Or.inr (Or.inl z))
            · rintro (q | q | q)
              · exact Or.inr ⟨h2, this.mpr (Or.inl q)⟩
              · exact Or.inr ⟨h2, this.mpr (Or.inr q)⟩
              · exact absurd q.1 h2
        simp only [key]
      have hsg := sgn_zero4 a
      by_cases g0 : way = 0
      · rw [if_pos (w0.mpr g0)]
        by_cases n : ng4 a = true
        · rw [if_neg (fun q => hsg.mp q n)]
          exact fin 1 (fun _ => ⟨fun _ => Or.inl ⟨g0, n⟩, fun _ => by decide⟩)
        · rw [if_pos (hsg.mpr n)]
          exact fin 0 (fun _ => ⟨fun q => absurd rfl q, fun q => by rcases q with q | q; exact absurd q.2 n; omega⟩)
      · rw [if_neg (fun q => g0 (w0.mp q))]
        by_cases g1 : way = 1
        · rw [if_pos (w1.mpr g1)]
          by_cases n : ng4 a = true
          · rw [if_neg (fun q => hsg.mp q n)]
            exact fin 0 (fun _ => ⟨fun q => absurd rfl q, fun q => by rcases q with q | q; omega; exact absurd (n.symm.trans q.2) (by decide)⟩)
          · rw [if_pos (hsg.mpr n)]
            exact fin 1 (fun _ => ⟨fun _ => Or.inr ⟨g1, Bool.eq_false_iff.mpr n⟩, fun _ => by decide⟩)
        · rw [if_neg (fun q => g1 (w1.mp q))]
          exact fin 0 (fun _ => ⟨fun q => absurd rfl q, fun q => by omega⟩)
