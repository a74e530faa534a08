/-! FLOATS as whole numbers of the least one, 2 ^ -1074 -/
def zm (a : UInt64) : Nat := FP.Core.zmag FP.Core.b64 (FP.Core.val64 a)
/-- a finite number with the sign + -/
def Ps (a : UInt64) : Prop := a.toNat < 9218868437227405312
theorem Ps.nn {a : UInt64} (h : Ps a) : FP.Core.val64 a ≠ .nan := by
  rw [FP.Core.ne_nan]; unfold Ps at h; omega
theorem Ps.nan {a : UInt64} (h : Ps a) : FP.dIsNaN a = false := (FP.Core.notNaN_iff a).mpr h.nn
theorem Ps.fin {a : UInt64} (h : Ps a) : ∃ c q, FP.Core.val64 a = .fin false c q := by
  have h1 : FP.Core.DFin a := by rw [FP.Core.fin_bits]; unfold Ps at h; omega
  obtain ⟨s, c, q, e⟩ := h1
  have h2 := FP.Core.sgn_bits h.nn
  rw [e] at h2
  have h3 : s = false := by
    rw [show FP.Core.sgn (.fin s c q) = s from rfl] at h2
    rw [h2]; unfold Ps at h; exact decide_eq_false (by omega)
  subst h3
  exact ⟨c, q, e⟩
theorem Ps.of {a : UInt64} {c : Nat} {q : Int} (e : FP.Core.val64 a = .fin false c q) : Ps a := by
  have h1 : FP.Core.DFin a := ⟨_, _, _, e⟩
  have h2 := FP.Core.sgn_bits h1.ne_nan
  rw [e, show FP.Core.sgn (.fin false c q) = false from rfl] at h2
  have h3 : ¬ (2 ^ 63 ≤ a.toNat) := of_decide_eq_false h2.symm
  rw [FP.Core.fin_bits] at h1
  unfold Ps; omega
theorem zm_bits {a : UInt64} (h : Ps a) : zm a = FP.Core.unitsOf FP.Core.b64 a.toNat := by
  unfold zm
  rw [FP.Core.zmag_bits h.nn]
  unfold Ps at h
  rw [Nat.mod_eq_of_lt (by omega)]
theorem zm_lt {a b : UInt64} (ha : Ps a) (hb : Ps b) : zm a < zm b ↔ a.toNat < b.toNat := by
  rw [zm_bits ha, zm_bits hb, FP.Core.unitsOf_lt_iff]
theorem zm_inj {a b : UInt64} (ha : Ps a) (hb : Ps b) (h : zm a = zm b) : a = b := by
  have h1 := zm_lt ha hb
  have h2 := zm_lt hb ha
  exact UInt64.toNat_inj.mp (by omega)
theorem pw_cancel {A B x y : Nat} (h : A * 2 ^ x = B * 2 ^ y) : A * 2 ^ (x - y) = B * 2 ^ (y - x) := by
  rcases Nat.le_total x y with hxy | hxy
  · have e : 2 ^ y = 2 ^ (y - x) * 2 ^ x := by rw [← Nat.pow_add]; congr 1; omega
    rw [e, ← Nat.mul_assoc] at h
    have := Nat.eq_of_mul_eq_mul_right (Nat.two_pow_pos x) h
    rw [show x - y = 0 by omega, Nat.pow_zero, Nat.mul_one]; exact this
  · have e : 2 ^ x = 2 ^ (x - y) * 2 ^ y := by rw [← Nat.pow_add]; congr 1; omega
    rw [e, ← Nat.mul_assoc] at h
    have := Nat.eq_of_mul_eq_mul_right (Nat.two_pow_pos y) h
    rw [show y - x = 0 by omega, Nat.pow_zero, Nat.mul_one]; exact this
theorem zm_fin {a : UInt64} {s : Bool} {c : Nat} {q : Int} (e : FP.Core.val64 a = .fin s c q) : zm a = c * 2 ^ (q + 1074).toNat ∧ -1074 ≤ q := by
  have hf := FP.Core.val64_fits a
  rw [e] at hf
  have h2 : FP.Core.b64.qmin ≤ q := hf.2.1
  rw [FP.Core.qmin_b64] at h2
  refine ⟨?_, h2⟩
  unfold zm
  rw [e]
  show FP.Core.inUnits c q FP.Core.b64.qmin = _
  rw [FP.Core.qmin_b64]
  unfold FP.Core.inUnits
  rw [show q - -1074 = q + 1074 by omega]
theorem mul_eq {a b r : UInt64} (ha : Ps a) (hb : Ps b) (hr : Ps r) (h : zm a * zm b = zm r * 2 ^ 1074) : FP.dmul a b = r := by
  obtain ⟨c, q, e1⟩ := ha.fin
  obtain ⟨d, w, e2⟩ := hb.fin
  obtain ⟨c', q', e3⟩ := hr.fin
  obtain ⟨z1, g1⟩ := zm_fin e1
  obtain ⟨z2, g2⟩ := zm_fin e2
  obtain ⟨z3, g3⟩ := zm_fin e3
  have f3 := FP.Core.val64_fits r
  rw [e3] at f3
  have hv : FP.Core.val64 (FP.Core.dmul a b) = FP.Core.val64 r := by
    rw [FP.Core.val64_dmul, e1, e2, e3]
    show FP.Core.roundRatio FP.Core.b64 false (c * d) 1 (q + w) = _
    refine FP.Core.roundRatio_exact FP.Core.good_b64 (by decide) f3 ?_
    rw [z1, z2, z3] at h
    have h2 : (c * d) * 2 ^ (q + w + 2148).toNat = c' * 2 ^ (q' + 2148).toNat := by
      rw [show (q + w + 2148).toNat = (q + 1074).toNat + (w + 1074).toNat by omega, show (q' + 2148).toNat = (q' + 1074).toNat + 1074 by omega, Nat.pow_add, Nat.pow_add, ← Nat.mul_assoc c', ← h]
      simp only [Nat.mul_assoc, Nat.mul_comm, Nat.mul_left_comm]
    have h3 := pw_cancel h2
    rw [Nat.mul_one, show (q + w - q').toNat = (q + w + 2148).toNat - (q' + 2148).toNat by omega, show (q' - (q + w)).toNat = (q' + 2148).toNat - (q + w + 2148).toNat by omega]
    exact h3
  exact (FP.Core.val64_inj hr.nn hv.symm).symm
theorem div_eq {a b r : UInt64} (ha : Ps a) (hb : Ps b) (hr : Ps r) (hb0 : zm b ≠ 0) (h : zm a * 2 ^ 1074 = zm r * zm b) : FP.ddiv a b = r := by
  obtain ⟨c, q, e1⟩ := ha.fin
  obtain ⟨d, w, e2⟩ := hb.fin
  obtain ⟨c', q', e3⟩ := hr.fin
  obtain ⟨z1, g1⟩ := zm_fin e1
  obtain ⟨z2, g2⟩ := zm_fin e2
  obtain ⟨z3, g3⟩ := zm_fin e3
  have f3 := FP.Core.val64_fits r
  rw [e3] at f3
  have hd : d ≠ 0 := fun q => hb0 (by rw [z2, q, Nat.zero_mul])
  have hv : FP.Core.val64 (FP.Core.ddiv a b) = FP.Core.val64 r := by
    rw [FP.Core.val64_ddiv, e1, e2, e3]
    show (if d = 0 then _ else FP.Core.roundRatio FP.Core.b64 false c d (q - w)) = _
    rw [if_neg hd]
    refine FP.Core.roundRatio_exact FP.Core.good_b64 (by omega) f3 ?_
    rw [z1, z2, z3] at h
    have h2 : c * 2 ^ (q + 2148).toNat = (c' * d) * 2 ^ (q' + w + 2148).toNat := by
      rw [show (q + 2148).toNat = (q + 1074).toNat + 1074 by omega, show (q' + w + 2148).toNat = (q' + 1074).toNat + (w + 1074).toNat by omega, Nat.pow_add, Nat.pow_add, ← Nat.mul_assoc c, h]
      simp only [Nat.mul_assoc, Nat.mul_comm, Nat.mul_left_comm]
    have h3 := pw_cancel h2
    rw [show (q - w - q').toNat = (q + 2148).toNat - (q' + w + 2148).toNat by omega, show (q' - (q - w)).toNat = (q' + w + 2148).toNat - (q + 2148).toNat by omega]
    exact h3
  exact (FP.Core.val64_inj hr.nn hv.symm).symm
/-- c * 2 ^ (k - 1074) -/
def rp (c k : Nat) : UInt64 := FP.Core.of64 (FP.Core.round FP.Core.b64 (.fin false c ((k : Int) - 1074)))
theorem rp_ok {c k : Nat} (hc : c < 2 ^ 53) (hk : k ≤ 2045) : Ps (rp c k) ∧ zm (rp c k) = c * 2 ^ k := by
  obtain ⟨c', q', e, h⟩ := FP.Core.round_exact FP.Core.good_b64 false (c := c) (q := (k : Int) - 1074) hc (by rw [FP.Core.qmin_b64]; omega) (by rw [show FP.Core.b64.qmax = 971 from by decide]; omega)
  have hv : FP.Core.val64 (rp c k) = .fin false c' q' := by
    unfold rp
    rw [FP.Core.val64_of64 (FP.Core.round_fits FP.Core.good_b64 _), e]
  refine ⟨Ps.of hv, ?_⟩
  unfold zm
  rw [hv]
  show FP.Core.inUnits c' q' FP.Core.b64.qmin = _
  rw [h, FP.Core.qmin_b64]
  unfold FP.Core.inUnits
  congr 2
  omega
theorem rp_mul {c k j : Nat} {b : UInt64} (hc : c < 2 ^ 53) (hb : Ps b) (zb : zm b = 2 ^ (1074 + j)) (hk : k + j ≤ 2045) : FP.dmul (rp c k) b = rp c (k + j) := by
  obtain ⟨h1, h2⟩ := rp_ok (c := c) (k := k) hc (by omega)
  obtain ⟨h3, h4⟩ := rp_ok (c := c) (k := k + j) hc hk
  refine mul_eq h1 hb h3 ?_
  rw [h2, h4, zb, Nat.pow_add, Nat.pow_add]
  simp only [Nat.mul_assoc, Nat.mul_comm, Nat.mul_left_comm]
theorem rp_div {c k j : Nat} {b : UInt64} (hc : c < 2 ^ 53) (hb : Ps b) (zb : zm b = 2 ^ (1074 + j)) (hk : k ≤ 2045) (hj : j ≤ k) : FP.ddiv (rp c k) b = rp c (k - j) := by
  obtain ⟨h1, h2⟩ := rp_ok (c := c) (k := k) hc hk
  obtain ⟨h3, h4⟩ := rp_ok (c := c) (k := k - j) hc (by omega)
  refine div_eq h1 hb h3 (by rw [zb]; exact Nat.pos_iff_ne_zero.mp (Nat.two_pow_pos _)) ?_
  rw [h2, h4, zb]
  rw [show 2 ^ k = 2 ^ (k - j) * 2 ^ j from by rw [← Nat.pow_add]; congr 1; omega, Nat.pow_add]
  simp only [Nat.mul_assoc, Nat.mul_comm, Nat.mul_left_comm]
/-- each number is a c * 2 ^ k -/
theorem rp_of {a : UInt64} (h : Ps a) : a = if a.toNat / 2 ^ 52 = 0 then rp a.toNat 0 else rp (2 ^ 52 + a.toNat % 2 ^ 52) (a.toNat / 2 ^ 52 - 1) := by
  have h1 : a.toNat / 2 ^ 52 < 2047 := by unfold Ps at h; omega
  have z := zm_bits h
  unfold FP.Core.unitsOf at z
  rw [FP.Core.tails_b64] at z
  split
  · rename_i h0
    have hl : a.toNat < 2 ^ 52 := by omega
    rw [if_pos hl] at z
    obtain ⟨h2, h3⟩ := rp_ok (c := a.toNat) (k := 0) (by omega) (by omega)
    exact zm_inj h h2 (by rw [z, h3, Nat.pow_zero, Nat.mul_one])
  · rename_i h0
    have hl : ¬ a.toNat < 2 ^ 52 := by omega
    rw [if_neg hl] at z
    obtain ⟨h2, h3⟩ := rp_ok (c := 2 ^ 52 + a.toNat % 2 ^ 52) (k := a.toNat / 2 ^ 52 - 1) (by omega) (by omega)
    exact zm_inj h h2 (by rw [z, h3])
