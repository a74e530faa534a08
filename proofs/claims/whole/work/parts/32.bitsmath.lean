/-! BITS: what valueOfSize, value, ofSize and of answer -/
theorem lN_tu {n : Nat} (h : n < 2 ^ 64) : (lN n).toUInt64.toNat = n := by
  have := wb_tn h
  exact this
theorem tu_lN (u : UInt64) : u.toInt64 = lN u.toNat := by
  apply wb_inj
  rw [wb_tb]
  show u.toBitVec = _
  apply BitVec.eq_of_toNat_eq
  rw [BitVec.toNat_ofNat]
  exact (Nat.mod_eq_of_lt u.toBitVec.isLt).symm
theorem lN_tu2 {n : Nat} (h : n < 2 ^ 64) {u : UInt64} (hu : u.toNat = n) : (lN n).toUInt64 = u := UInt64.toNat_inj.mp (by rw [lN_tu h, hu])
/-- the size of bits -/
def sz (a : Int64) : Nat := a.toUInt64.toNat % 2 ^ 63
theorem sz_lN {n : Nat} (h : n < 2 ^ 64) : sz (lN n) = n % 2 ^ 63 := by unfold sz; rw [lN_tu h]
theorem sz_lt (a : Int64) : sz a < 2 ^ 63 := Nat.mod_lt _ (by decide)
theorem and_size (a : Int64) : a &&& (9223372036854775807 : Int64) = lN (sz a) := by
  obtain ⟨n, hn, rfl⟩ := wb_of a
  rw [sz_lN hn]
  exact wb_mask (k := 63) hn (by decide)
theorem isInf_iff (a : Int64) : mX1_isInfinite a = 0 ↔ sz a ≠ 9218868437227405312 := by
  unfold mX1_isInfinite
  rw [and_size]
  have h1 := sz_lt a
  have h2 : lg_cmp (lN (sz a)) (9218868437227405312 : Int64) = 0 ↔ sz a = 9218868437227405312 := by
    rw [lg_cmp_eq, show (9218868437227405312 : Int64) = lN 9218868437227405312 from rfl, pk_lEQ h1 (by decide)]
  split
  · rename_i h; exact ⟨fun q => absurd q (by decide), fun q => absurd (h2.mp h) q⟩
  · rename_i h; exact ⟨fun _ q => h (h2.mpr q), fun _ => rfl⟩
theorem nnan_scaled {c k : Nat} (hc : c < 2 ^ 53) (hk : k ≤ 2045) : FP.dIsNaN (rp c k) = false := (rp_ok hc hk).1.nan
theorem ps_l2d {n : Nat} (h : n < 2 ^ 53) : FP.l2d (lN n) = rp n 1074 := by
  have h1 : (lN n).toInt = n := pk_lT (by omega)
  have h2 : FP.Core.DInt (lN n).toInt (FP.Core.l2d (lN n)) := FP.Core.l2d_int (by rw [h1]; omega)
  have h3 := FP.Core.DInt_zval h2
  have h4 := FP.Core.DInt_ne_nan h2
  rw [h1] at h3
  obtain ⟨c, q, e⟩ := FP.Core.l2d_shape (lN n)
  have hsg : decide ((lN n).toInt < 0) = false := by rw [h1]; exact decide_eq_false (by omega)
  rw [hsg] at e
  have hP : Ps (FP.Core.l2d (lN n)) := Ps.of e
  have hz : (zm (FP.Core.l2d (lN n)) : Int) = (n : Int) * (FP.Core.one64 : Int) := by rw [← h3, zval_ps hP]
  obtain ⟨r1, r2⟩ := rp_ok (c := n) (k := 1074) h (by omega)
  refine zm_inj hP r1 ?_
  rw [r2]
  exact Int.ofNat.inj (by rw [show Int.ofNat (zm (FP.Core.l2d (lN n))) = (zm (FP.Core.l2d (lN n)) : Int) from rfl, hz]; rfl)
theorem add_eq {a b r : UInt64} (ha : Ps a) (hb : Ps b) (hr : Ps r) (h : zm a + zm b = zm r) : FP.dadd a b = r := by
  obtain ⟨c, q, e1⟩ := ha.fin
  obtain ⟨d, w, e2⟩ := hb.fin
  obtain ⟨c', q', e3⟩ := hr.fin
  obtain ⟨z1, g1⟩ := zm_fin e1
  obtain ⟨z2, g2⟩ := zm_fin e2
  obtain ⟨z3, g3⟩ := zm_fin e3
  have f3 := FP.Core.val64_fits r
  rw [e3] at f3
  have hv : FP.Core.val64 (FP.Core.dadd a b) = FP.Core.val64 r := by
    rw [FP.Core.val64_dadd, e1, e2, e3]
    have hu : FP.Core.sumUnits false c q false d w (min q w) = ((c * 2 ^ (q - min q w).toNat + d * 2 ^ (w - min q w).toNat : Nat) : Int) := by
      unfold FP.Core.sumUnits FP.Core.signed FP.Core.inUnits
      simp
    show FP.Core.round _ (.fin (FP.Core.sumSign false false (FP.Core.sumUnits false c q false d w (min q w))) (FP.Core.sumUnits false c q false d w (min q w)).natAbs (min q w)) = _
    rw [hu]
    have hs : FP.Core.sumSign false false ((c * 2 ^ (q - min q w).toNat + d * 2 ^ (w - min q w).toNat : Nat) : Int) = false := by
      unfold FP.Core.sumSign
      split
      · rfl
      · exact decide_eq_false (by omega)
    rw [hs, Int.natAbs_natCast]
    refine FP.Core.roundRatio_exact FP.Core.good_b64 (by decide) f3 ?_
    rw [z1, z2, z3] at h
    have h2 : (c * 2 ^ (q - min q w).toNat + d * 2 ^ (w - min q w).toNat) * 2 ^ (min q w + 1074).toNat = c' * 2 ^ (q' + 1074).toNat := by
      rw [← h, Nat.add_mul, Nat.mul_assoc, Nat.mul_assoc, ← Nat.pow_add, ← Nat.pow_add]
      congr 3 <;> omega
    have h3 := pw_cancel h2
    rw [Nat.mul_one, show (min q w - q').toNat = (min q w + 1074).toNat - (q' + 1074).toNat by omega, show (q' - min q w).toNat = (q' + 1074).toNat - (min q w + 1074).toNat by omega]
    exact h3
  exact (FP.Core.val64_inj hr.nn hv.symm).symm
/-- the number of a size that isn't NONE's nor infinite -/
theorem vos_fin {a0 : Int64} (h : sz a0 < 9218868437227405312) : mX1_valueOfSize a0 = (lN (sz a0)).toUInt64 := by
  obtain ⟨n, hn, rfl⟩ := wb_of a0
  have hz := sz_lN hn
  generalize hM : sz (lN n) = M at *
  have hM63 : M < 2 ^ 63 := by rw [hz]; exact Nat.mod_lt _ (by decide)
  have hinf : ¬ mX1_isInfinite (lN n) = 0 → False := fun q => q ((isInf_iff _).mpr (by rw [hM]; omega))
  have hval : (lN M).toUInt64.toNat = M := lN_tu (by omega)
  have hPs : Ps (lN M).toUInt64 := by unfold Ps; rw [hval]; exact h
  have hrp := rp_of hPs
  rw [hval] at hrp
  have hE : ((lN n &&& (9223372036854775807 : Int64)).toUInt64 >>> ((52 : Int32).toInt64.toUInt64 &&& Int64.toUInt64 63)).toInt64 = lN (M / 2 ^ 52) := by
    rw [and_size, hM]
    exact wb_shr (k := 52) (by omega) (by decide)
  have hT : lN n &&& (4503599627370495 : Int64) = lN (M % 2 ^ 52) := by
    rw [show (4503599627370495 : Int64) = lN (2 ^ 52 - 1) from rfl, wb_mask (k := 52) hn (by decide), hz, Nat.mod_mod_of_dvd _ (by decide)]
  have hEl : M / 2 ^ 52 < 2047 := by omega
  have p52 : Ps 4372995238176751616 ∧ zm 4372995238176751616 = 2 ^ 1022 := ⟨by unfold Ps; decide +kernel, by decide +kernel⟩
  have hfr : FP.dmul (FP.l2d (lN (M % 2 ^ 52))) 4372995238176751616 = rp (M % 2 ^ 52) 1022 := by
    obtain ⟨r1, r2⟩ := rp_ok (c := M % 2 ^ 52) (k := 1074) (by omega) (by omega)
    obtain ⟨r3, r4⟩ := rp_ok (c := M % 2 ^ 52) (k := 1022) (by omega) (by omega)
    rw [ps_l2d (by omega)]
    refine mul_eq r1 p52.1 r3 ?_
    rw [r2, r4, p52.2, Nat.mul_assoc, Nat.mul_assoc, Nat.mul_comm (2 ^ 1074)]
  rw [mX1_valueOfSize, if_pos (Decidable.byContradiction hinf), hE, hT, hfr]
  by_cases h0 : M / 2 ^ 52 = 0
  · rw [if_pos h0] at hrp
    rw [h0, if_pos (by decide), hrp, show M % 2 ^ 52 = M by omega]
    exact scaled_down (r := 1022) (by omega) (by omega) (by omega) (by omega) (by omega)
  · rw [if_neg h0] at hrp
    have hne : ¬ (lN (M / 2 ^ 52)).toInt32 = 0 := by
      rw [lN_i]; exact nI_ne0 (by omega) (by omega)
    rw [if_neg hne, hrp]
    have p1 : Ps FP.dconst1 ∧ zm FP.dconst1 = 2 ^ 1074 := ⟨by unfold Ps; decide +kernel, by decide +kernel⟩
    have hsum : FP.dadd FP.dconst1 (rp (M % 2 ^ 52) 1022) = rp (2 ^ 52 + M % 2 ^ 52) 1022 := by
      obtain ⟨r3, r4⟩ := rp_ok (c := M % 2 ^ 52) (k := 1022) (by omega) (by omega)
      obtain ⟨r1, r2⟩ := rp_ok (c := 2 ^ 52 + M % 2 ^ 52) (k := 1022) (by omega) (by omega)
      refine add_eq p1.1 r3 r1 ?_
      rw [p1.2, r4, r2, Nat.add_mul, ← Nat.pow_add]
    rw [hsum, lN_i]
    rcases Nat.lt_or_ge (M / 2 ^ 52) 1023 with hlt | hge
    · have : nI (M / 2 ^ 52) - (1023 : Int32) = -nI (1023 - M / 2 ^ 52) := by
        rw [← Int32.toInt_inj, show (1023 : Int32) = nI 1023 from rfl, pk_sub_toInt (by omega) (by omega), sb_negT (by omega)]
        omega
      rw [this, scaled_down (r := 1023 - M / 2 ^ 52) (by omega) (by omega) (by omega) (by omega) (by omega)]
      exact congrArg (rp (2 ^ 52 + M % 2 ^ 52)) (by omega)
    · have : nI (M / 2 ^ 52) - (1023 : Int32) = nI (M / 2 ^ 52 - 1023) := pk_sub hge
      rw [this, scaled_up (r := M / 2 ^ 52 - 1023) (by omega) (by omega) (by omega)]
      exact congrArg (rp (2 ^ 52 + M % 2 ^ 52)) (by omega)
/-- the bits of a size -/
theorem ofs_ps {a : UInt64} (h : Ps a) : mX1_ofSize a = a.toInt64 := by
  have hM : a.toNat < 9218868437227405312 := h
  rw [tu_lN]
  generalize hMe : a.toNat = M at *
  have hrp := rp_of h
  rw [hMe] at hrp
  have pinf : Op.cmpValue (FP.dcmp a mX2_beyondAll) .l = 0 → False := by
    have h1 := (FP.Core.fin_lt_inf (a := a) (by rw [FP.Core.fin_bits, hMe]; omega)).1
    rw [show FP.dcmp a mX2_beyondAll = some .lt from h1]
    decide
  have p1 : Ps FP.dconst1 ∧ zm FP.dconst1 = 2 ^ 1074 := ⟨by unfold Ps; decide +kernel, by decide +kernel⟩
  have p52 : Ps 4841369599423283200 ∧ zm 4841369599423283200 = 2 ^ (1074 + 52) := ⟨by unfold Ps; decide +kernel, by decide +kernel⟩
  have fin : ∀ (c pw : Nat), c < 2 ^ 53 → c + pw * 2 ^ 52 = M → mX2_scaled a (-(nI pw - 1022)) = rp c 1022 → ((nI pw - 1022 - (-1022 : Int32)).toInt64 <<< ((52 : Int32).toInt64 &&& 63)) + FP.d2l (FP.dmul (mX2_scaled a (-(nI pw - 1022))) 4841369599423283200) = lN M := by
    intro c pw hc hcp hs
    obtain ⟨r1, r2⟩ := rp_ok (c := c) (k := 1074) hc (by omega)
    rw [hs, rp_mul hc p52.1 p52.2 (by omega), show 1022 + 52 = 1074 from rfl]
    have hd : FP.d2l (rp c 1074) = lN c := by
      rw [← Int64.toInt_inj, pk_lT (by omega)]
      have := FP.Core.d2l_val r1.nn
      rw [show FP.Core.sgn (FP.Core.val64 (rp c 1074)) = false from by obtain ⟨x, y, e⟩ := r1.fin; rw [e]; rfl] at this
      rw [show FP.d2l (rp c 1074) = FP.Core.d2l (rp c 1074) from rfl, this, show FP.Core.zmag FP.Core.b64 (FP.Core.val64 (rp c 1074)) = c * 2 ^ 1074 from r2, show FP.Core.one64 = 2 ^ 1074 from rfl, Nat.mul_div_cancel _ (Nat.two_pow_pos _)]
      show max (-2 ^ 63) (min (2 ^ 63 - 1) (c : Int)) = _
      omega
    have hp : nI pw - 1022 - (-1022 : Int32) = nI pw := by rw [Int32.sub_neg, Int32.sub_add_cancel]
    have hsh : lN pw <<< ((52 : Int32).toInt64 &&& 63) = lN (pw * 2 ^ 52) := wb_shl pw (k := 52) (by decide)
    rw [hd, hp, nI_l (by omega), hsh, lN_add]
    exact congrArg lN (by omega)
  rw [mX1_ofSize, if_neg pinf]
  by_cases h0 : M / 2 ^ 52 = 0
  · rw [if_pos h0] at hrp
    have hlt : Op.cmpValue (FP.dcmp a FP.dconst1) .l < 0 := (cv_lt h p1.1).mpr (by
      rw [hrp, (rp_ok (by omega) (by omega)).2, p1.2, Nat.pow_zero, Nat.mul_one]
      exact Nat.lt_of_lt_of_le (show M < 2 ^ 52 by omega) (Nat.pow_le_pow_right (by decide) (by decide)))
    have hpw : mX2_floorBelowOne a (-1022) = nI 0 - 1022 := by
      rw [hrp, fbo (by omega) (by omega) (by omega)]
      decide
    rw [if_pos hlt, hpw]
    refine fin M 0 (by omega) (by omega) ?_
    rw [hrp]
    exact scaled_up (r := 1022) (k := 0) (by omega) (by omega) (by omega)
  · rw [if_neg h0] at hrp
    obtain ⟨r1, r2⟩ := rp_ok (c := 2 ^ 52 + M % 2 ^ 52) (k := M / 2 ^ 52 - 1) (by omega) (by omega)
    rcases Nat.lt_or_ge (M / 2 ^ 52) 1023 with hl | hg
    · have hlt : Op.cmpValue (FP.dcmp a FP.dconst1) .l < 0 := (cv_lt h p1.1).mpr (by
        rw [hrp, r2, p1.2]; exact cpw_lt (by omega) (by omega))
      have hpw : mX2_floorBelowOne a (-1022) = nI (M / 2 ^ 52 - 1) - 1022 := by
        rw [hrp, fbo (by omega) (by omega) (by omega), ← Int32.toInt_inj, sb_negT (by omega), show (1022 : Int32) = nI 1022 from rfl, pk_sub_toInt (by omega) (by omega)]
        omega
      rw [if_pos hlt, hpw]
      refine fin (2 ^ 52 + M % 2 ^ 52) (M / 2 ^ 52 - 1) (by omega) (by omega) ?_
      have : -(nI (M / 2 ^ 52 - 1) - 1022 : Int32) = nI (1023 - M / 2 ^ 52) := by
        rw [Int32.neg_sub, show (1022 : Int32) = nI 1022 from rfl, pk_sub (by omega)]; exact congrArg nI (by omega)
      rw [this, hrp, scaled_up (r := 1023 - M / 2 ^ 52) (by omega) (by omega) (by omega)]
      exact congrArg (rp (2 ^ 52 + M % 2 ^ 52)) (by omega)
    · have hge : ¬ Op.cmpValue (FP.dcmp a FP.dconst1) .l < 0 := fun q => absurd ((cv_lt h p1.1).mp q) (by
        rw [hrp, r2, p1.2]; exact Nat.not_lt.mpr (cpw_ge (by omega) (by omega)))
      have hpw : mX2_floorFromOne a = nI (M / 2 ^ 52 - 1) - 1022 := by
        rw [hrp, show M / 2 ^ 52 - 1 = 1022 + (M / 2 ^ 52 - 1023) by omega, ffo (by omega) (by omega) (by omega), show (1022 : Int32) = nI 1022 from rfl, pk_sub (by omega)]
        exact congrArg nI (by omega)
      rw [if_neg hge, hpw]
      refine fin (2 ^ 52 + M % 2 ^ 52) (M / 2 ^ 52 - 1) (by omega) (by omega) ?_
      rcases Nat.eq_or_lt_of_le hg with he | hgt
      · have : -(nI (M / 2 ^ 52 - 1) - 1022 : Int32) = nI 0 := by rw [← he]; decide
        rw [this, hrp, scaled_up (r := 0) (by omega) (by omega) (by omega)]
        exact congrArg (rp (2 ^ 52 + M % 2 ^ 52)) (by omega)
      · have : (nI (M / 2 ^ 52 - 1) - 1022 : Int32) = nI (M / 2 ^ 52 - 1023) := by
          rw [show (1022 : Int32) = nI 1022 from rfl, pk_sub (by omega)]; exact congrArg nI (by omega)
        rw [this, hrp, scaled_down (r := M / 2 ^ 52 - 1023) (by omega) (by omega) (by omega) (by omega) (by omega)]
        exact congrArg (rp (2 ^ 52 + M % 2 ^ 52)) (by omega)
