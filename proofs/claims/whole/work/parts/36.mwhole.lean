/-! THE MODEL'S WHOLE, in numbers -/
def ng (a : Int64) : Bool := decide (2 ^ 63 ≤ a.toUInt64.toNat)
def sgb (b : Bool) (x : Nat) : Int64 := lN ((if b = true then 2 ^ 63 else 0) + x)
theorem ng_t {a : Int64} : ng a = true ↔ ¬ a.toUInt64.toNat < 2 ^ 63 := by unfold ng; rw [decide_eq_true_iff]; omega
theorem sgb_self (a : Int64) : a = sgb (ng a) (sz a) := by
  have h := un_lt a
  unfold sgb
  by_cases h1 : a.toUInt64.toNat < 2 ^ 63
  · have h2 : ¬ ng a = true := fun q => ng_t.mp q h1
    rw [if_neg h2, Nat.zero_add]
    have : sz a = a.toUInt64.toNat := Nat.mod_eq_of_lt h1
    rw [this]; exact lN_un a
  · rw [if_pos (ng_t.mpr h1)]
    have : 2 ^ 63 + sz a = a.toUInt64.toNat := by unfold sz; omega
    rw [this]; exact lN_un a
theorem sgb_sz {b : Bool} {x : Nat} (h : x < 2 ^ 63) : sz (sgb b x) = x ∧ ng (sgb b x) = b := by
  unfold sgb
  have hl : (if b = true then 2 ^ 63 else 0) + x < 2 ^ 64 := by split <;> omega
  refine ⟨by rw [sz_lN hl]; split <;> omega, ?_⟩
  unfold ng
  rw [lN_tu hl]
  cases b
  · exact decide_eq_false (by rw [if_neg (by decide)]; omega)
  · exact decide_eq_true (by rw [if_pos rfl]; omega)
theorem wb_sar {n k : Nat} (hn : n < 2 ^ 63) (hk : k < 64) : lN n >>> ((nI k).toInt64 &&& 63) = lN (n / 2 ^ k) := by
  rw [wb_c k hk]
  apply wb_inj
  rw [Int64.toBitVec_shiftRight, wb_tb, wb_tb, wb_tb, wb_sm k hk]
  show (BitVec.ofNat 64 n).sshiftRight (BitVec.ofNat 64 k).toNat = _
  rw [BitVec.toNat_ofNat, Nat.mod_eq_of_lt (by omega), BitVec.sshiftRight_eq_of_msb_false]
  · apply BitVec.eq_of_toNat_eq
    rw [BitVec.toNat_ushiftRight, BitVec.toNat_ofNat, BitVec.toNat_ofNat, Nat.shiftRight_eq_div_pow, Nat.mod_eq_of_lt (by omega), Nat.mod_eq_of_lt (by have := Nat.div_le_self n (2 ^ k); omega)]
  · rw [BitVec.msb_eq_decide, BitVec.toNat_ofNat, Nat.mod_eq_of_lt (by omega)]
    exact decide_eq_false (by omega)
theorem and_63 {n : Nat} (h : n < 2 ^ 64) : n &&& 2 ^ 63 = if n < 2 ^ 63 then 0 else 2 ^ 63 := by
  apply Nat.eq_of_testBit_eq
  intro i
  rw [Nat.testBit_and, Nat.testBit_two_pow]
  by_cases hi : 63 = i
  · subst hi
    rw [Nat.testBit_eq_decide_div_mod_eq]
    by_cases h2 : n < 2 ^ 63
    · rw [if_pos h2, decide_eq_false (by omega)]; simp
    · rw [if_neg h2, decide_eq_true (by omega), Nat.testBit_two_pow]; rfl
  · rw [decide_eq_false hi, Bool.and_false]
    split
    · simp
    · rw [Nat.testBit_two_pow, decide_eq_false hi]
theorem and_sign (a : Int64) : a &&& (-9223372036854775808 : Int64) = lN (if ng a = true then 2 ^ 63 else 0) := by
  have h := un_lt a
  have h1 : (-9223372036854775808 : Int64) = lN (2 ^ 63) := by decide
  rw [h1]
  conv => lhs; rw [lN_un a]
  rw [wb_and h (by decide), and_63 h]
  by_cases h2 : a.toUInt64.toNat < 2 ^ 63
  · rw [if_neg (fun q => ng_t.mp q h2), if_pos h2]
  · rw [if_pos (ng_t.mpr h2), if_neg h2]
theorem or_sgn (a : Int64) {x : Nat} (hx : x < 2 ^ 63) : (a &&& (-9223372036854775808 : Int64)) ||| lN x = sgb (ng a) x := by
  rw [and_sign]
  unfold sgb
  by_cases h : ng a = true
  · rw [if_pos h, show lN (2 ^ 63) = (-9223372036854775808 : Int64) from by decide, or_sign hx]
  · rw [if_neg h, Nat.zero_add]; exact or_zero _
theorem sgn_zero (a : Int64) : lg_cmp (a &&& (-9223372036854775808 : Int64)) 0 = 0 ↔ ¬ ng a = true := by
  rw [lg_cmp_eq, and_sign]
  by_cases h : ng a = true
  · rw [if_pos h]; exact ⟨fun q => absurd q (by decide), fun q => absurd h q⟩
  · rw [if_neg h]; exact ⟨fun _ => h, fun _ => rfl⟩
theorem whole_C79 {a : Int64} {way : Nat} (hw : way ≤ 3) (w : Int32) (h0 : 0 < sz a) (h1 : sz a < 1075 * 2 ^ 52) : mX7_whole_C79 a (nI way) w = sgb (ng a) (if sz a < 1023 * 2 ^ 52 then (if (way = 2 ∧ 1022 * 2 ^ 52 < sz a) ∨ (¬ way = 2 ∧ ¬ w = 0) then 1023 * 2 ^ 52 else 0) else if sz a % 2 ^ (52 - (sz a / 2 ^ 52 - 1023)) = 0 then sz a else if (way = 2 ∧ (2 ^ (52 - (sz a / 2 ^ 52 - 1023)) / 2 < sz a % 2 ^ (52 - (sz a / 2 ^ 52 - 1023)) ∨ sz a % 2 ^ (52 - (sz a / 2 ^ 52 - 1023)) = 2 ^ (52 - (sz a / 2 ^ 52 - 1023)) / 2 ∧ (sz a / 2 ^ 52 - 1023 = 0 ∨ (sz a - sz a % 2 ^ (52 - (sz a / 2 ^ 52 - 1023))) / 2 ^ (52 - (sz a / 2 ^ 52 - 1023)) % 2 = 1))) ∨ (¬ way = 2 ∧ ¬ w = 0) then sz a - sz a % 2 ^ (52 - (sz a / 2 ^ 52 - 1023)) + 2 ^ (52 - (sz a / 2 ^ 52 - 1023)) else sz a - sz a % 2 ^ (52 - (sz a / 2 ^ 52 - 1023))) := by
  have hsz : mX7_size a = lN (sz a) := and_size a
  have hE : (lN (sz a) >>> ((52 : Int32).toInt64 &&& 63)).toInt32 = nI (sz a / 2 ^ 52) := by
    rw [show lN (sz a) >>> ((52 : Int32).toInt64 &&& 63) = lN (sz a / 2 ^ 52) from wb_sar (k := 52) (by omega) (by decide), lN_i]
  have hself := sgb_self a
  have hw2 : nI way = (2 : Int32) ↔ way = 2 := by rw [show (2 : Int32) = nI 2 from rfl, nI_eq (by omega) (by decide)]
  have c0 : 0 ≤ nI (sz a / 2 ^ 52) - (1023 : Int32) ↔ 1023 ≤ sz a / 2 ^ 52 := by
    rw [Int32.le_iff_toInt_le, i32_0, show (1023 : Int32) = nI 1023 from rfl, pk_sub_toInt (by omega) (by decide)]; omega
  unfold mX7_whole_C79
  rw [hsz, hE]
  by_cases hl : sz a < 1023 * 2 ^ 52
  · rw [if_neg (fun q => absurd (c0.mp q) (by omega)), if_pos hl]
    have hC : ∀ v : Int32, mX7_whole_C104 a (nI way) w v = sgb (ng a) (if v = 0 then 0 else 1023 * 2 ^ 52) := by
      intro v
      unfold mX7_whole_C104
      by_cases hv : v = 0
      · rw [if_pos hv, if_pos hv]; exact or_sgn a (x := 0) (by decide)
      · rw [if_neg hv, if_neg hv]; exact or_sgn a (x := 1023 * 2 ^ 52) (by decide)
    have hh : lg_cmp (lN (sz a)) (4602678819172646912 : Int64) ≤ 0 ↔ sz a ≤ 1022 * 2 ^ 52 := by
      rw [lg_cmp_le, show (4602678819172646912 : Int64) = lN (1022 * 2 ^ 52) from by decide, pk_lLE (by omega) (by decide)]
    by_cases h2 : way = 2
    · rw [if_pos (hw2.mpr h2)]
      by_cases h3 : sz a ≤ 1022 * 2 ^ 52
      · rw [if_pos (hh.mpr h3), hC, if_pos rfl, if_neg (by omega)]
      · rw [if_neg (fun q => h3 (hh.mp q)), hC, if_neg (by decide), if_pos (by omega)]
    · rw [if_neg (fun q => h2 (hw2.mp q)), hC]
      by_cases h3 : w = 0
      · rw [if_pos h3, if_neg (by rintro (q | q); exact h2 q.1; exact q.2 h3)]
      · rw [if_neg h3, if_pos (Or.inr ⟨h2, h3⟩)]
  · have hEg : 1023 ≤ sz a / 2 ^ 52 := by omega
    have hEl : sz a / 2 ^ 52 < 1075 := by omega
    rw [if_pos (c0.mpr hEg), if_neg hl]
    have hU : (1 : Int64) <<< (((52 : Int32) - (nI (sz a / 2 ^ 52) - (1023 : Int32))).toInt64 &&& 63) = lN (2 ^ (52 - (sz a / 2 ^ 52 - 1023))) := by
      have e1 : (52 : Int32) - (nI (sz a / 2 ^ 52) - (1023 : Int32)) = nI (52 - (sz a / 2 ^ 52 - 1023)) := by
        rw [show (1023 : Int32) = nI 1023 from rfl, pk_sub hEg, show (52 : Int32) = nI 52 from rfl, pk_sub (by omega)]
      rw [e1, show (1 : Int64) = lN 1 from rfl, wb_shl 1 (by omega), Nat.one_mul]
    have e2 : nI (sz a / 2 ^ 52) - (1023 : Int32) = nI (sz a / 2 ^ 52 - 1023) := pk_sub hEg
    rw [hU]
    have hpe : 52 - (sz a / 2 ^ 52 - 1023) < 64 := by omega
    have hUb : 2 ^ (52 - (sz a / 2 ^ 52 - 1023)) ≤ 2 ^ 52 := Nat.pow_le_pow_right (by decide) (by omega)
    have hUp := Nat.two_pow_pos (52 - (sz a / 2 ^ 52 - 1023))
    have hM1 : lN (2 ^ (52 - (sz a / 2 ^ 52 - 1023))) - (1 : Int64) = lN (2 ^ (52 - (sz a / 2 ^ 52 - 1023)) - 1) := by
      rw [show (1 : Int64) = lN 1 from rfl, lN_sub (by omega)]
    have hR : lN (sz a) &&& lN (2 ^ (52 - (sz a / 2 ^ 52 - 1023)) - 1) = lN (sz a % 2 ^ (52 - (sz a / 2 ^ 52 - 1023))) := wb_mask (by omega) hpe
    rw [hM1, hR]
    have hrl := Nat.mod_lt (sz a) hUp
    have hrm := Nat.mod_le (sz a) (2 ^ (52 - (sz a / 2 ^ 52 - 1023)))
    have hOdd : mX7_isOdd (lN (sz a - sz a % 2 ^ (52 - (sz a / 2 ^ 52 - 1023)))) (nI (sz a / 2 ^ 52 - 1023)) = 0 ↔ ¬ (sz a / 2 ^ 52 - 1023 = 0 ∨ (sz a - sz a % 2 ^ (52 - (sz a / 2 ^ 52 - 1023))) / 2 ^ (52 - (sz a / 2 ^ 52 - 1023)) % 2 = 1) := by
      unfold mX7_isOdd
      have q0 : nI (sz a / 2 ^ 52 - 1023) = 0 ↔ sz a / 2 ^ 52 - 1023 = 0 := by rw [show (0 : Int32) = nI 0 from rfl, nI_eq (by omega) (by decide)]
      have q1 : (52 : Int32) - nI (sz a / 2 ^ 52 - 1023) = nI (52 - (sz a / 2 ^ 52 - 1023)) := by rw [show (52 : Int32) = nI 52 from rfl, pk_sub (by omega)]
      rw [q1, wb_sar (by omega) hpe, wb_a1 (by have := Nat.div_le_self (sz a - sz a % 2 ^ (52 - (sz a / 2 ^ 52 - 1023))) (2 ^ (52 - (sz a / 2 ^ 52 - 1023))); omega)]
      have q2 : ∀ z : Nat, lg_cmp (lN (z % 2)) (1 : Int64) = 0 ↔ z % 2 = 1 := fun z => by
        rw [lg_cmp_eq, show (1 : Int64) = lN 1 from rfl, pk_lEQ (by omega) (by decide)]
      by_cases g : sz a / 2 ^ 52 - 1023 = 0
      · rw [if_pos (q0.mpr g)]; exact ⟨fun q => absurd q (by decide), fun q => absurd (Or.inl g) q⟩
      · rw [if_neg (fun q => g (q0.mp q))]
        by_cases g2 : (sz a - sz a % 2 ^ (52 - (sz a / 2 ^ 52 - 1023))) / 2 ^ (52 - (sz a / 2 ^ 52 - 1023)) % 2 = 1
        · rw [if_pos ((q2 _).mpr g2)]; exact ⟨fun q => absurd q (by decide), fun q => absurd (Or.inr g2) q⟩
        · rw [if_neg (fun q => g2 ((q2 _).mp q))]; exact ⟨fun _ q => q.elim g g2, fun _ => rfl⟩
    have hcut : lN (sz a) - lN (sz a % 2 ^ (52 - (sz a / 2 ^ 52 - 1023))) = lN (sz a - sz a % 2 ^ (52 - (sz a / 2 ^ 52 - 1023))) := lN_sub hrm
    have hC : ∀ v : Int32, mX7_whole_C198 a (nI way) w v = sgb (ng a) (if v = 0 then sz a - sz a % 2 ^ (52 - (sz a / 2 ^ 52 - 1023)) else sz a - sz a % 2 ^ (52 - (sz a / 2 ^ 52 - 1023)) + 2 ^ (52 - (sz a / 2 ^ 52 - 1023))) := by
      intro v
      unfold mX7_whole_C198
      rw [hsz, hE, hU, hM1, hR, hcut, lN_add]
      by_cases hv : v = 0
      · rw [if_pos hv, if_pos hv]; exact or_sgn a (by omega)
      · rw [if_neg hv, if_neg hv]; exact or_sgn a (by omega)
    rw [e2, hcut]
    generalize hUe : 2 ^ (52 - (sz a / 2 ^ 52 - 1023)) = U at *
    generalize hRe : sz a % U = r at *
    have hdv : lN U / (2 : Int64) = lN (U / 2) := by rw [show (2 : Int64) = lN 2 from rfl, pk_lDiv (by omega) (by decide) (by decide)]
    have g0 : lg_cmp (lN r) (0 : Int64) = 0 ↔ r = 0 := by rw [lg_cmp_eq, show (0 : Int64) = lN 0 from rfl, pk_lEQ (by omega) (by decide)]
    have g1 : 0 < lg_cmp (lN r) (lN (U / 2)) ↔ U / 2 < r := by rw [lg_cmp_gt, pk_lLT (by omega) (by omega)]
    have g2 : lg_cmp (lN r) (lN (U / 2)) = 0 ↔ r = U / 2 := by rw [lg_cmp_eq, pk_lEQ (by omega) (by omega)]
    rw [hdv]
    by_cases hr0 : r = 0
    · rw [if_pos (g0.mpr hr0), if_pos hr0]; exact hself
    · rw [if_neg (fun q => hr0 (g0.mp q)), if_neg hr0]
      by_cases h2 : way = 2
      · rw [if_pos (hw2.mpr h2)]
        by_cases k1 : U / 2 < r
        · rw [if_pos (g1.mpr k1), hC, if_neg (by decide), if_pos (Or.inl ⟨h2, Or.inl k1⟩)]
        · rw [if_neg (fun q => k1 (g1.mp q))]
          by_cases k2 : r = U / 2
          · rw [if_pos (g2.mpr k2)]
            by_cases k3 : sz a / 2 ^ 52 - 1023 = 0 ∨ (sz a - r) / U % 2 = 1
            · rw [if_neg (fun q => absurd k3 (hOdd.mp q)), hC, if_neg (by decide), if_pos (Or.inl ⟨h2, Or.inr ⟨k2, k3⟩⟩)]
            · rw [if_pos (hOdd.mpr k3), hC, if_pos rfl, if_neg (by rintro (⟨_, q | q⟩ | q); exact k1 q; exact k3 q.2; exact q.1 h2)]
          · rw [if_neg (fun q => k2 (g2.mp q)), hC, if_pos rfl, if_neg (by rintro (⟨_, q | q⟩ | q); exact k1 q; exact k2 q.1; exact q.1 h2)]
      · rw [if_neg (fun q => h2 (hw2.mp q)), hC]
        by_cases k1 : w = 0
        · rw [if_pos k1, if_neg (by rintro (q | q); exact h2 q.1; exact q.2 k1)]
        · rw [if_neg k1, if_pos (Or.inr ⟨h2, k1⟩)]
theorem mwhole {a : Int64} {way : Nat} (hw : way ≤ 3) (h : sz a ≤ 9218868437227405312) : mX7_whole a (nI way) = sgb (ng a) (wN 52 1023 (ng a) way (sz a)) := by
  have hsz : mX7_size a = lN (sz a) := and_size a
  have hE : (lN (sz a) >>> ((52 : Int32).toInt64 &&& 63)).toInt32 = nI (sz a / 2 ^ 52) := by
    rw [show lN (sz a) >>> ((52 : Int32).toInt64 &&& 63) = lN (sz a / 2 ^ 52) from wb_sar (k := 52) (by omega) (by decide), lN_i]
  have c52 : (52 : Int32) ≤ nI (sz a / 2 ^ 52) - (1023 : Int32) ↔ 1075 ≤ sz a / 2 ^ 52 := by
    rw [Int32.le_iff_toInt_le, show (1023 : Int32) = nI 1023 from rfl, pk_sub_toInt (by omega) (by decide), show (52 : Int32).toInt = 52 from by decide]; omega
  have cz : lg_cmp (lN (sz a)) (0 : Int64) = 0 ↔ sz a = 0 := by rw [lg_cmp_eq, show (0 : Int64) = lN 0 from rfl, pk_lEQ (by omega) (by decide)]
  unfold mX7_whole wN
  rw [hsz, hE]
  by_cases k1 : 1075 ≤ sz a / 2 ^ 52
  · rw [if_pos (c52.mpr k1), if_pos (Or.inl (by omega))]; exact sgb_self a
  · rw [if_neg (fun q => k1 (c52.mp q))]
    by_cases k2 : sz a = 0
    · rw [if_pos (cz.mpr k2), if_pos (Or.inr k2)]; exact sgb_self a
    · rw [if_neg (fun q => k2 (cz.mp q)), if_neg (show ¬ (1023 * 2 ^ 52 + 52 * 2 ^ 52 ≤ sz a ∨ sz a = 0) by omega)]
      have hC := fun w => whole_C79 (a := a) hw w (by omega) (by omega)
      unfold wR
      have w0 : nI way = 0 ↔ way = 0 := by rw [show (0 : Int32) = nI 0 from rfl, nI_eq (by omega) (by decide)]
      have w1 : nI way = (1 : Int32) ↔ way = 1 := by rw [show (1 : Int32) = nI 1 from rfl, nI_eq (by omega) (by decide)]
      have fin : ∀ w : Int32, (¬ way = 2 → (¬ w = 0 ↔ (way = 0 ∧ ng a = true) ∨ (way = 1 ∧ ng a = false))) → mX7_whole_C79 a (nI way) w = sgb (ng a) (if sz a < 1023 * 2 ^ 52 then (if (way = 0 ∧ ng a = true) ∨ (way = 1 ∧ ng a = false) ∨ (way = 2 ∧ (1023 - 1) * 2 ^ 52 < sz a) then 1023 * 2 ^ 52 else 0) else if sz a % 2 ^ (52 - (sz a / 2 ^ 52 - 1023)) = 0 then sz a else if (way = 0 ∧ ng a = true) ∨ (way = 1 ∧ ng a = false) ∨ (way = 2 ∧ (2 ^ (52 - (sz a / 2 ^ 52 - 1023)) / 2 < sz a % 2 ^ (52 - (sz a / 2 ^ 52 - 1023)) ∨ sz a % 2 ^ (52 - (sz a / 2 ^ 52 - 1023)) = 2 ^ (52 - (sz a / 2 ^ 52 - 1023)) / 2 ∧ (sz a / 2 ^ 52 - 1023 = 0 ∨ (sz a - sz a % 2 ^ (52 - (sz a / 2 ^ 52 - 1023))) / 2 ^ (52 - (sz a / 2 ^ 52 - 1023)) % 2 = 1))) then sz a - sz a % 2 ^ (52 - (sz a / 2 ^ 52 - 1023)) + 2 ^ (52 - (sz a / 2 ^ 52 - 1023)) else sz a - sz a % 2 ^ (52 - (sz a / 2 ^ 52 - 1023))) := by
        intro w hww
        rw [hC w]
        have key : ∀ X : Prop, ((way = 2 ∧ X) ∨ (¬ way = 2 ∧ ¬ w = 0)) ↔ ((way = 0 ∧ ng a = true) ∨ (way = 1 ∧ ng a = false) ∨ (way = 2 ∧ X)) := by
          intro X
          by_cases h2 : way = 2
          · constructor
            · rintro (q | q)
              · exact Or.inr (Or.inr q)
              · exact absurd h2 q.1
            · rintro (q | q | q)
              · exact absurd q.1 (by omega)
              · exact absurd q.1 (by omega)
              · exact Or.inl q
          · have := hww h2
            constructor
            · rintro (q | q)
              · exact absurd q.1 h2
              · exact (this.mp q.2).elim Or.inl (fun z => Or.inr (Or.inl z))
            · rintro (q | q | q)
              · exact Or.inr ⟨h2, this.mpr (Or.inl q)⟩
              · exact Or.inr ⟨h2, this.mpr (Or.inr q)⟩
              · exact absurd q.1 h2
        simp only [key]
      have hsg := sgn_zero a
      by_cases g0 : way = 0
      · rw [if_pos (w0.mpr g0)]
        by_cases n : ng a = true
        · rw [if_neg (fun q => hsg.mp q n)]
          exact fin 1 (fun _ => ⟨fun _ => Or.inl ⟨g0, n⟩, fun _ => by decide⟩)
        · rw [if_pos (hsg.mpr n)]
          exact fin 0 (fun _ => ⟨fun q => absurd rfl q, fun q => by rcases q with q | q; exact absurd q.2 n; omega⟩)
      · rw [if_neg (fun q => g0 (w0.mp q))]
        by_cases g1 : way = 1
        · rw [if_pos (w1.mpr g1)]
          by_cases n : ng a = true
          · rw [if_neg (fun q => hsg.mp q n)]
            exact fin 0 (fun _ => ⟨fun q => absurd rfl q, fun q => by rcases q with q | q; omega; exact absurd (n.symm.trans q.2) (by decide)⟩)
          · rw [if_pos (hsg.mpr n)]
            exact fin 1 (fun _ => ⟨fun _ => Or.inr ⟨g1, Bool.eq_false_iff.mpr n⟩, fun _ => by decide⟩)
        · rw [if_neg (fun q => g1 (w1.mp q))]
          exact fin 0 (fun _ => ⟨fun q => absurd rfl q, fun q => by omega⟩)
