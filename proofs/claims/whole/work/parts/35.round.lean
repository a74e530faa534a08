/-! WHOLE: what is made whole, in units -/
def rnd (one N : Nat) (neg : Bool) (way : Nat) : Nat := N / one + (if (way = 0 ∧ neg = true ∧ N % one ≠ 0) ∨ (way = 1 ∧ neg = false ∧ N % one ≠ 0) ∨ (way = 2 ∧ (one < 2 * (N % one) ∨ one = 2 * (N % one) ∧ N / one % 2 = 1)) then 1 else 0)
/-- units of a format with t digits behind the leading one -/
def un (t m : Nat) : Nat := if m < 2 ^ t then m else (2 ^ t + m % 2 ^ t) * 2 ^ (m / 2 ^ t - 1)
theorem un64 (m : Nat) : FP.Core.unitsOf FP.Core.b64 m = un 52 m := by unfold FP.Core.unitsOf un; rw [FP.Core.tails_b64]
theorem un32 (m : Nat) : FP.Core.unitsOf FP.Core.b32 m = un 23 m := by unfold FP.Core.unitsOf un; rw [FP.Core.tails_b32]
theorem un64_lt {m k : Nat} : un 52 m < un 52 k ↔ m < k := by rw [← un64, ← un64, FP.Core.unitsOf_lt_iff]
theorem un32_lt {m k : Nat} : un 23 m < un 23 k ↔ m < k := by rw [← un32, ← un32, FP.Core.unitsOf_lt_iff]
def wR (e : Nat) (neg : Bool) (way m unit rest : Nat) : Nat := if rest = 0 then m
    else if (way = 0 ∧ neg = true) ∨ (way = 1 ∧ neg = false) ∨ (way = 2 ∧ (unit / 2 < rest ∨ rest = unit / 2 ∧ (e = 0 ∨ (m - rest) / unit % 2 = 1))) then m - rest + unit else m - rest
/-- what the model's whole does with a size m, in numbers -/
def wN (t B : Nat) (neg : Bool) (way m : Nat) : Nat :=
  if B * 2 ^ t + t * 2 ^ t ≤ m ∨ m = 0 then m
  else if m < B * 2 ^ t then
    (if (way = 0 ∧ neg = true) ∨ (way = 1 ∧ neg = false) ∨ (way = 2 ∧ (B - 1) * 2 ^ t < m) then B * 2 ^ t else 0)
  else wR (m / 2 ^ t - B) neg way m (2 ^ (t - (m / 2 ^ t - B))) (m % 2 ^ (t - (m / 2 ^ t - B)))
theorem un_start {t K : Nat} (h : 1 ≤ K) : un t (K * 2 ^ t) = 2 ^ (t + K - 1) := by
  unfold un
  have hp := Nat.two_pow_pos t
  have h1 : ¬ K * 2 ^ t < 2 ^ t := Nat.not_lt.mpr (Nat.le_mul_of_pos_left _ (by omega))
  rw [if_neg h1, Nat.mul_mod_left, Nat.mul_div_cancel _ hp, Nat.add_zero, ← Nat.pow_add]
  congr 1; omega
theorem un_low {t E T : Nat} (hE : 1 ≤ E) (hT : T < 2 ^ t) : un t (E * 2 ^ t + T) = (2 ^ t + T) * 2 ^ (E - 1) := by
  unfold un
  have hp := Nat.two_pow_pos t
  have h0 : 2 ^ t ≤ E * 2 ^ t := Nat.le_mul_of_pos_left _ (by omega)
  have h1 : ¬ E * 2 ^ t + T < 2 ^ t := by omega
  have e1 : (E * 2 ^ t + T) % 2 ^ t = T := by rw [Nat.add_comm, Nat.add_mul_mod_self_right, Nat.mod_eq_of_lt hT]
  have e2 : (E * 2 ^ t + T) / 2 ^ t = E := by rw [Nat.add_comm, Nat.add_mul_div_right _ _ hp, Nat.div_eq_of_lt hT, Nat.zero_add]
  rw [if_neg h1, e1, e2]
theorem rnd_exact {one N : Nat} {neg : Bool} {way : Nat} (h1 : 0 < one) (h : N % one = 0) : rnd one N neg way * one = N := by
  unfold rnd
  rw [h, if_neg (by omega), Nat.add_zero]
  exact Nat.div_mul_cancel (Nat.dvd_of_mod_eq_zero h)
theorem wN_units {t B : Nat} (ht : 1 ≤ t) (hB : 2 ≤ B) (mono : ∀ m k, un t m < un t k ↔ m < k) (neg : Bool) (way m : Nat) : un t (wN t B neg way m) = rnd (2 ^ (t + B - 1)) (un t m) neg way * 2 ^ (t + B - 1) := by
  have hone : 0 < 2 ^ (t + B - 1) := Nat.two_pow_pos _
  have hp := Nat.two_pow_pos t
  have u0 : un t 0 = 0 := by unfold un; rw [if_pos hp]
  unfold wN
  by_cases hA : B * 2 ^ t + t * 2 ^ t ≤ m ∨ m = 0
  · rw [if_pos hA]
    refine (rnd_exact hone ?_).symm
    rcases hA with hA | hA
    · have hE : B + t ≤ m / 2 ^ t := by rw [Nat.le_div_iff_mul_le hp, Nat.add_mul]; exact hA
      have hm : m = m / 2 ^ t * 2 ^ t + m % 2 ^ t := by rw [Nat.mul_comm]; exact (Nat.div_add_mod m (2 ^ t)).symm
      rw [hm, un_low (by omega) (Nat.mod_lt _ hp)]
      have : 2 ^ (m / 2 ^ t - 1) = 2 ^ (m / 2 ^ t - 1 - (t + B - 1)) * 2 ^ (t + B - 1) := by rw [← Nat.pow_add]; congr 1; omega
      rw [this, ← Nat.mul_assoc]
      exact Nat.mul_mod_left _ _
    · rw [hA, u0, Nat.zero_mod]
  · rw [if_neg hA]
    have hm0 : 0 < m := by omega
    have hN0 : 0 < un t m := by rw [← u0]; exact (mono 0 m).mpr hm0
    by_cases hC : m < B * 2 ^ t
    · rw [if_pos hC]
      have hNo : un t m < 2 ^ (t + B - 1) := by
        rw [← un_start (t := t) (K := B) (by omega)]; exact (mono _ _).mpr hC
      have hh : 2 ^ (t + B - 1) = 2 * un t ((B - 1) * 2 ^ t) := by
        rw [un_start (by omega), ← Nat.pow_succ']
        congr 1; omega
      have hcmp : 2 ^ (t + B - 1) < 2 * un t m ↔ (B - 1) * 2 ^ t < m := by
        have h9 := mono ((B - 1) * 2 ^ t) m
        rw [hh]
        constructor
        · intro q; exact h9.mp (by omega)
        · intro q; have := h9.mpr q; omega
      unfold rnd
      rw [Nat.div_eq_of_lt hNo, Nat.mod_eq_of_lt hNo, Nat.zero_add]
      have hN1 : un t m ≠ 0 := by omega
      have hcond : ((way = 0 ∧ neg = true ∧ un t m ≠ 0) ∨ (way = 1 ∧ neg = false ∧ un t m ≠ 0) ∨ (way = 2 ∧ (2 ^ (t + B - 1) < 2 * un t m ∨ 2 ^ (t + B - 1) = 2 * un t m ∧ 0 % 2 = 1))) ↔ ((way = 0 ∧ neg = true) ∨ (way = 1 ∧ neg = false) ∨ (way = 2 ∧ (B - 1) * 2 ^ t < m)) := by
        rw [hcmp]
        constructor
        · rintro (⟨a, b, _⟩ | ⟨a, b, _⟩ | ⟨a, b | ⟨_, b⟩⟩)
          · exact Or.inl ⟨a, b⟩
          · exact Or.inr (Or.inl ⟨a, b⟩)
          · exact Or.inr (Or.inr ⟨a, b⟩)
          · exact absurd b (by decide)
        · rintro (⟨a, b⟩ | ⟨a, b⟩ | ⟨a, b⟩)
          · exact Or.inl ⟨a, b, hN1⟩
          · exact Or.inr (Or.inl ⟨a, b, hN1⟩)
          · exact Or.inr (Or.inr ⟨a, Or.inl b⟩)
      by_cases hc : (way = 0 ∧ neg = true) ∨ (way = 1 ∧ neg = false) ∨ (way = 2 ∧ (B - 1) * 2 ^ t < m)
      · rw [if_pos hc, if_pos (hcond.mpr hc), Nat.one_mul, un_start (by omega)]
      · rw [if_neg hc, if_neg (fun q => hc (hcond.mp q)), Nat.zero_mul, u0]
    · rw [if_neg hC]
      unfold wR
      have hEl : m / 2 ^ t < B + t := by rw [Nat.div_lt_iff_lt_mul hp, Nat.add_mul]; omega
      have hEg : B ≤ m / 2 ^ t := by rw [Nat.le_div_iff_mul_le hp]; omega
      have hm : m = m / 2 ^ t * 2 ^ t + m % 2 ^ t := by rw [Nat.mul_comm]; exact (Nat.div_add_mod m (2 ^ t)).symm
      have hT := Nat.mod_lt m hp
      have hlow : ∀ T', T' < 2 ^ t → un t (m / 2 ^ t * 2 ^ t + T') = (2 ^ t + T') * 2 ^ (m / 2 ^ t - 1) := fun T' h => un_low (by omega) h
      have hup : un t ((m / 2 ^ t + 1) * 2 ^ t) = 2 ^ t * 2 * 2 ^ (m / 2 ^ t - 1) := by
        rw [un_start (by omega), ← Nat.pow_succ, ← Nat.pow_add]; congr 1; omega
      generalize hEe : m / 2 ^ t = E at *
      generalize hTe : m % 2 ^ t = T at *
      have hw : 2 ^ t = 2 ^ (E - B) * 2 ^ (t - (E - B)) := by rw [← Nat.pow_add]; congr 1; omega
      have hone2 : 2 ^ (t + B - 1) = 2 ^ (t - (E - B)) * 2 ^ (E - 1) := by rw [← Nat.pow_add]; congr 1; omega
      have hwp := Nat.two_pow_pos (t - (E - B))
      have hDp := Nat.two_pow_pos (E - 1)
      have hw2 : 2 ^ (t - (E - B)) = 2 * 2 ^ (t - (E - B) - 1) := by rw [← Nat.pow_succ']; congr 1; omega
      have hPe : E - B = 0 ∨ 2 ^ (E - B) = 2 * 2 ^ (E - B - 1) := by
        rcases Nat.eq_zero_or_pos (E - B) with h | h
        · exact Or.inl h
        · right; rw [← Nat.pow_succ']; congr 1; omega
      have hP1 : E - B = 0 → 2 ^ (E - B) = 1 := fun h => by rw [h]
      have hNm : un t m = (2 ^ t + T) * 2 ^ (E - 1) := by
        have := hlow T hT
        rw [← hm] at this
        exact this
      rw [hone2]
      generalize 2 ^ (t - (E - B)) = w at *
      generalize 2 ^ (t - (E - B) - 1) = w1 at *
      generalize 2 ^ (E - 1) = D at *
      generalize 2 ^ (E - B) = P at *
      generalize 2 ^ (E - B - 1) = P1 at *
      generalize 2 ^ t = Q at *
      subst hw
      have hTw : T = T / w * w + T % w := by rw [Nat.mul_comm]; exact (Nat.div_add_mod T w).symm
      have hrw := Nat.mod_lt T hwp
      have hgP : T / w < P := by rw [Nat.div_lt_iff_lt_mul hwp]; exact hT
      generalize T / w = g at *
      generalize T % w = r at *
      subst hTw
      have hmw : m = (E * P + g) * w + r := by rw [hm, Nat.add_mul, Nat.mul_assoc]; omega
      have hmr : m % w = r := by rw [hmw, Nat.add_comm, Nat.add_mul_mod_self_right, Nat.mod_eq_of_lt hrw]
      have hms : m - r = (E * P + g) * w := by omega
      have hN : un t m = (P + g) * (w * D) + r * D := by
        rw [hNm, show P * w + (g * w + r) = (P + g) * w + r by rw [Nat.add_mul]; omega, Nat.add_mul, Nat.mul_assoc]
      have hrD : r * D < w * D := Nat.mul_lt_mul_of_pos_right hrw hDp
      have hod : 0 < w * D := Nat.mul_pos hwp hDp
      have hdiv : un t m / (w * D) = P + g := by
        rw [hN, Nat.add_comm, Nat.add_mul_div_right _ _ hod, Nat.div_eq_of_lt hrD, Nat.zero_add]
      have hmod : un t m % (w * D) = r * D := by
        rw [hN, Nat.add_comm, Nat.add_mul_mod_self_right, Nat.mod_eq_of_lt hrD]
      rw [hmr]
      by_cases hr0 : r = 0
      · rw [if_pos hr0]
        exact (rnd_exact hod (by rw [hmod, hr0, Nat.zero_mul])).symm
      · rw [if_neg hr0]
        have hrD0 : r * D ≠ 0 := Nat.mul_ne_zero hr0 (by omega)
        have e1 : w * D < 2 * (r * D) ↔ w / 2 < r := by
          rw [← Nat.mul_assoc, Nat.mul_lt_mul_right hDp]; omega
        have e2 : w * D = 2 * (r * D) ↔ r = w / 2 := by
          rw [← Nat.mul_assoc, Nat.mul_right_cancel_iff hDp]; omega
        have e3 : (P + g) % 2 = 1 ↔ (E - B = 0 ∨ (m - r) / w % 2 = 1) := by
          rw [hms, Nat.mul_div_cancel _ hwp]
          rcases hPe with h | h
          · have := hP1 h
            constructor
            · intro _; exact Or.inl h
            · intro _; omega
          · have hne : E - B ≠ 0 ∨ E - B = 0 := by omega
            rcases hne with hne | hz
            · rw [h, show E * (2 * P1) + g = 2 * (E * P1) + g from by rw [Nat.mul_left_comm]]
              omega
            · have := hP1 hz; omega
        have hcond : ((way = 0 ∧ neg = true ∧ r * D ≠ 0) ∨ (way = 1 ∧ neg = false ∧ r * D ≠ 0) ∨ (way = 2 ∧ (w * D < 2 * (r * D) ∨ w * D = 2 * (r * D) ∧ (P + g) % 2 = 1))) ↔ ((way = 0 ∧ neg = true) ∨ (way = 1 ∧ neg = false) ∨ (way = 2 ∧ (w / 2 < r ∨ r = w / 2 ∧ (E - B = 0 ∨ (m - r) / w % 2 = 1)))) := by
          rw [e1, e2, e3]
          constructor
          · rintro (⟨a, b, _⟩ | ⟨a, b, _⟩ | h)
            · exact Or.inl ⟨a, b⟩
            · exact Or.inr (Or.inl ⟨a, b⟩)
            · exact Or.inr (Or.inr h)
          · rintro (⟨a, b⟩ | ⟨a, b⟩ | h)
            · exact Or.inl ⟨a, b, hrD0⟩
            · exact Or.inr (Or.inl ⟨a, b, hrD0⟩)
            · exact Or.inr (Or.inr h)
        unfold rnd
        rw [hdiv, hmod]
        have hgw : g * w < P * w := Nat.mul_lt_mul_of_pos_right hgP hwp
        by_cases hc : (way = 0 ∧ neg = true) ∨ (way = 1 ∧ neg = false) ∨ (way = 2 ∧ (w / 2 < r ∨ r = w / 2 ∧ (E - B = 0 ∨ (m - r) / w % 2 = 1)))
        · rw [if_pos hc, if_pos (hcond.mpr hc)]
          rcases Nat.lt_or_ge (g + 1) P with hg | hg
          · have h1 : (g + 1) * w < P * w := Nat.mul_lt_mul_of_pos_right hg hwp
            have h2 : m - r + w = E * (P * w) + (g + 1) * w := by rw [hms, Nat.add_mul, Nat.add_mul, Nat.mul_assoc]; omega
            rw [h2, hlow _ h1, show P * w + (g + 1) * w = (P + g + 1) * w from by rw [← Nat.add_mul, Nat.add_assoc], Nat.mul_assoc]
          · have h1 : g + 1 = P := by omega
            have h2 : m - r + w = (E + 1) * (P * w) := by
              rw [hms, Nat.add_mul, Nat.add_mul, Nat.mul_assoc, Nat.one_mul, ← h1, Nat.add_mul g 1 w]; omega
            rw [h2, hup, show P * w * 2 = (P + g + 1) * w from by rw [Nat.add_assoc, h1, Nat.add_mul]; omega, Nat.mul_assoc]
        · rw [if_neg hc, if_neg (fun q => hc (hcond.mp q)), Nat.add_zero]
          have h2 : m - r = E * (P * w) + g * w := by rw [hms, Nat.add_mul, Nat.mul_assoc]
          rw [h2, hlow _ hgw, ← Nat.add_mul, Nat.mul_assoc]
