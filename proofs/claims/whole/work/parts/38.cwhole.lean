/-! THE CLASS'S WHOLE, in units; both wholes are one -/
theorem wsg {x : Nat} (hx : x < 2 ^ 63) (a : Int64) : mX1_withSignOf (lN x) a = sgb (ng a) x := by
  unfold mX1_withSignOf
  rw [and_size, sz_lN (by omega), Nat.mod_eq_of_lt hx, Int64.or_comm]
  exact or_sgn a hx
theorem d2l_ps {d : UInt64} (h : Ps d) (hf : zm d / 2 ^ 1074 < 2 ^ 63) : FP.d2l d = lN (zm d / 2 ^ 1074) := by
  rw [← Int64.toInt_inj, pk_lT hf]
  have := FP.Core.d2l_val h.nn
  rw [show FP.Core.sgn (FP.Core.val64 d) = false from by obtain ⟨x, y, e⟩ := h.fin; rw [e]; rfl] at this
  rw [show FP.d2l d = FP.Core.d2l d from rfl, this, show FP.Core.zmag FP.Core.b64 (FP.Core.val64 d) = zm d from rfl, show FP.Core.one64 = 2 ^ 1074 from rfl]
  show max (-2 ^ 63) (min (2 ^ 63 - 1) ((zm d / 2 ^ 1074 : Nat) : Int)) = _
  omega
theorem sub_eq {a b r : UInt64} (ha : Ps a) (hb : Ps b) (hr : Ps r) (h : zm a = zm r + zm b) : FP.dsub a b = r := by
  obtain ⟨c, q, e1⟩ := ha.fin
  obtain ⟨d, w, e2⟩ := hb.fin
  obtain ⟨c', q', e3⟩ := hr.fin
  obtain ⟨z1, g1⟩ := zm_fin e1
  obtain ⟨z2, g2⟩ := zm_fin e2
  obtain ⟨z3, g3⟩ := zm_fin e3
  have f3 := FP.Core.val64_fits r
  rw [e3] at f3
  have hv : FP.Core.val64 (FP.Core.dsub a b) = FP.Core.val64 r := by
    rw [FP.Core.val64_dsub, e1, e2, e3]
    rw [z1, z2, z3] at h
    have hge : d * 2 ^ (w - min q w).toNat ≤ c * 2 ^ (q - min q w).toNat := by
      have hh : d * 2 ^ (w - min q w).toNat * 2 ^ (min q w + 1074).toNat ≤ c * 2 ^ (q - min q w).toNat * 2 ^ (min q w + 1074).toNat := by
        rw [Nat.mul_assoc, Nat.mul_assoc, ← Nat.pow_add, ← Nat.pow_add, show (w - min q w).toNat + (min q w + 1074).toNat = (w + 1074).toNat by omega, show (q - min q w).toNat + (min q w + 1074).toNat = (q + 1074).toNat by omega, h]
        exact Nat.le_add_left _ _
      exact Nat.le_of_mul_le_mul_right hh (Nat.two_pow_pos _)
    have hu : FP.Core.sumUnits false c q true d w (min q w) = ((c * 2 ^ (q - min q w).toNat - d * 2 ^ (w - min q w).toNat : Nat) : Int) := by
      show ((c * 2 ^ (q - min q w).toNat : Nat) : Int) + -((d * 2 ^ (w - min q w).toNat : Nat) : Int) = _
      rw [Int.ofNat_sub hge]; exact Int.sub_eq_add_neg.symm
    show FP.Core.round _ (.fin (FP.Core.sumSign false true (FP.Core.sumUnits false c q true d w (min q w))) (FP.Core.sumUnits false c q true d w (min q w)).natAbs (min q w)) = _
    rw [hu]
    have hs : FP.Core.sumSign false true ((c * 2 ^ (q - min q w).toNat - d * 2 ^ (w - min q w).toNat : Nat) : Int) = false := by
      unfold FP.Core.sumSign
      split
      · rfl
      · exact decide_eq_false (by omega)
    rw [hs, Int.natAbs_natCast]
    refine FP.Core.roundRatio_exact FP.Core.good_b64 (by decide) f3 ?_
    have h2 : (c * 2 ^ (q - min q w).toNat - d * 2 ^ (w - min q w).toNat) * 2 ^ (min q w + 1074).toNat = c' * 2 ^ (q' + 1074).toNat := by
      rw [Nat.sub_mul, Nat.mul_assoc, Nat.mul_assoc, ← Nat.pow_add, ← Nat.pow_add, show (w - min q w).toNat + (min q w + 1074).toNat = (w + 1074).toNat by omega, show (q - min q w).toNat + (min q w + 1074).toNat = (q + 1074).toNat by omega, h]
      exact Nat.add_sub_cancel _ _
    have h3 := pw_cancel h2
    rw [Nat.mul_one, show (min q w - q').toNat = (min q w + 1074).toNat - (q' + 1074).toNat by omega, show (q' - min q w).toNat = (q' + 1074).toNat - (min q w + 1074).toNat by omega]
    exact h3
  exact (FP.Core.val64_inj hr.nn hv.symm).symm
theorem cv_gt {a b : UInt64} {op : CmpOp} (ha : Ps a) (hb : Ps b) : 0 < Op.cmpValue (FP.dcmp a b) op ↔ zm b < zm a := by
  rw [cv_ps ha hb]
  rcases Nat.lt_trichotomy (zm a) (zm b) with h | h | h
  · rw [(FP.Core.compare_lt_iff _ _).mpr (by omega)]; exact ⟨fun q => absurd q (by decide : ¬ (0 : Int32) < -1), fun q => by omega⟩
  · rw [(FP.Core.compare_eq_iff _ _).mpr (by omega)]; exact ⟨fun q => absurd q (by decide : ¬ (0 : Int32) < 0), fun q => by omega⟩
  · rw [(FP.Core.compare_gt_iff _ _).mpr (by omega)]; exact ⟨fun _ => h, fun _ => (by decide : (0 : Int32) < 1)⟩
theorem cv_eq {a b : UInt64} {op : CmpOp} (ha : Ps a) (hb : Ps b) : Op.cmpValue (FP.dcmp a b) op = 0 ↔ zm a = zm b := by
  rw [cv_ps ha hb]
  rcases Nat.lt_trichotomy (zm a) (zm b) with h | h | h
  · rw [(FP.Core.compare_lt_iff _ _).mpr (by omega)]; exact ⟨fun q => absurd q (by decide : ¬ (-1 : Int32) = 0), fun q => by omega⟩
  · rw [(FP.Core.compare_eq_iff _ _).mpr (by omega)]; exact ⟨fun _ => h, fun _ => rfl⟩
  · rw [(FP.Core.compare_gt_iff _ _).mpr (by omega)]; exact ⟨fun q => absurd q (by decide : ¬ (1 : Int32) = 0), fun q => by omega⟩
theorem cv_le {a b : UInt64} {op : CmpOp} (ha : Ps a) (hb : Ps b) : Op.cmpValue (FP.dcmp a b) op ≤ 0 ↔ zm a ≤ zm b := by
  have h := cv_gt (op := op) ha hb
  rw [Int32.lt_iff_toInt_lt] at h
  rw [Int32.le_iff_toInt_le]
  omega
theorem grows_iff {r : UInt64} (hr : Ps r) (o n : Int32) {way : Nat} (hw : way ≤ 3) : mX5_growsInSize r o n (nI way) = 0 ↔ ¬ ((way = 0 ∧ ¬ n = 0 ∧ zm r ≠ 0) ∨ (way = 1 ∧ n = 0 ∧ zm r ≠ 0) ∨ (way = 2 ∧ (2 ^ 1073 < zm r ∨ zm r = 2 ^ 1073 ∧ ¬ o = 0))) := by
  have p0 : Ps FP.dconst0 ∧ zm FP.dconst0 = 0 := ⟨by unfold Ps; decide +kernel, by decide +kernel⟩
  have ph : Ps 4602678819172646912 ∧ zm 4602678819172646912 = 2 ^ 1073 := ⟨by unfold Ps; decide +kernel, by decide +kernel⟩
  have k0 : Op.cmpValue (FP.dcmp r FP.dconst0) .l ≤ 0 ↔ ¬ zm r ≠ 0 := by rw [cv_le hr p0.1, p0.2]; omega
  have k1 : 0 < Op.cmpValue (FP.dcmp r 4602678819172646912) .l ↔ 2 ^ 1073 < zm r := by rw [cv_gt hr ph.1, ph.2]
  have k2 : Op.cmpValue (FP.dcmp r 4602678819172646912) .l = 0 ↔ zm r = 2 ^ 1073 := by rw [cv_eq hr ph.1, ph.2]
  have w0 : nI way = (0 : Int32) ↔ way = 0 := by rw [show (0 : Int32) = nI 0 from rfl, nI_eq (by omega) (by decide)]
  have w1 : nI way = (1 : Int32) ↔ way = 1 := by rw [show (1 : Int32) = nI 1 from rfl, nI_eq (by omega) (by decide)]
  have w2 : nI way = (2 : Int32) ↔ way = 2 := by rw [show (2 : Int32) = nI 2 from rfl, nI_eq (by omega) (by decide)]
  have one : ¬ (1 : Int32) = 0 := by decide
  unfold mX5_growsInSize
  simp only [k0, k1, k2, w0, w1, w2]
  generalize zm r = z
  generalize (2 : Nat) ^ 1073 = h
  by_cases a0 : way = 0
  · by_cases a1 : n = 0 <;> by_cases a2 : z = 0 <;> simp [a0, a1, a2]
  · by_cases b0 : way = 1
    · by_cases a1 : n = 0 <;> by_cases a2 : z = 0 <;> simp [b0, a1, a2]
    · by_cases c0 : way = 2
      · by_cases a1 : h < z <;> by_cases a2 : z = h <;> by_cases a3 : o = 0 <;> simp [c0, a1, a2, a3]
      · simp [a0, b0, c0]
theorem un_mul1074 {m : Nat} (h : 1075 * 2 ^ 52 ≤ m) : un 52 m % 2 ^ 1074 = 0 := by
  have hm : m = m / 2 ^ 52 * 2 ^ 52 + m % 2 ^ 52 := by omega
  rw [hm, un_low (by omega) (by omega)]
  have : 2 ^ (m / 2 ^ 52 - 1) = 2 ^ (m / 2 ^ 52 - 1 - 1074) * 2 ^ 1074 := by rw [← Nat.pow_add]; exact congrArg (fun e => 2 ^ e) (by omega)
  rw [this, ← Nat.mul_assoc]
  exact Nat.mul_mod_left _ _
theorem cwhole {a : Int64} {way : Nat} (hw : way ≤ 3) (h : sz a < 9218868437227405312) : ∃ x, mX5_whole a (nI way) = sgb (ng a) x ∧ x < 9218868437227405312 ∧ un 52 x = rnd (2 ^ 1074) (un 52 (sz a)) (ng a) way * 2 ^ 1074 := by
  have hone : 0 < 2 ^ 1074 := Nat.two_pow_pos _
  have cA : lg_cmp (a &&& (9223372036854775807 : Int64)) (4841369599423283200 : Int64) < 0 ↔ sz a < 1075 * 2 ^ 52 := by
    rw [and_size, lg_cmp_lt, show (4841369599423283200 : Int64) = lN (1075 * 2 ^ 52) from by decide, pk_lLT (by omega) (by decide)]
  by_cases hb : 1075 * 2 ^ 52 ≤ sz a
  · refine ⟨sz a, ?_, h, (rnd_exact hone (un_mul1074 hb)).symm⟩
    unfold mX5_whole
    rw [if_neg (fun q => absurd (cA.mp q) (by omega))]
    exact sgb_self a
  · have hval : (lN (sz a)).toUInt64.toNat = sz a := lN_tu (by omega)
    have hd : Ps (lN (sz a)).toUInt64 := by unfold Ps; rw [hval]; exact h
    have hN : zm (lN (sz a)).toUInt64 = un 52 (sz a) := by rw [zm_bits hd, hval, un64]
    have hNl : un 52 (sz a) < 2 ^ 1126 := by
      have := un64_lt.mpr (show sz a < 1075 * 2 ^ 52 by omega)
      rw [un_start (by decide)] at this
      exact this
    have hf : un 52 (sz a) / 2 ^ 1074 < 2 ^ 52 := by
      rw [Nat.div_lt_iff_lt_mul hone, ← Nat.pow_add]; exact hNl
    have hv : mX1_valueOfSize a = (lN (sz a)).toUInt64 := vos_fin h
    have hD : FP.d2l (lN (sz a)).toUInt64 = lN (un 52 (sz a) / 2 ^ 1074) := by
      rw [d2l_ps hd (by rw [hN]; omega), hN]
    obtain ⟨c, k, hc, hk, hck⟩ : ∃ c k, c < 2 ^ 53 ∧ k ≤ 1073 ∧ un 52 (sz a) = c * 2 ^ k := by
      by_cases h0 : sz a / 2 ^ 52 = 0
      · refine ⟨sz a, 0, by omega, by omega, ?_⟩
        unfold un
        rw [if_pos (by omega), Nat.pow_zero, Nat.mul_one]
      · refine ⟨2 ^ 52 + sz a % 2 ^ 52, sz a / 2 ^ 52 - 1, by omega, by omega, ?_⟩
        unfold un
        rw [if_neg (by omega)]
    have h1074 : (2 : Nat) ^ 1074 = 2 ^ (1074 - k) * 2 ^ k := by rw [← Nat.pow_add]; exact congrArg (fun e => 2 ^ e) (by omega)
    have hrest : un 52 (sz a) % 2 ^ 1074 = (c % 2 ^ (1074 - k)) * 2 ^ k := by rw [hck, h1074, Nat.mul_mod_mul_right]
    have hcl : c % 2 ^ (1074 - k) < 2 ^ 53 := Nat.lt_of_le_of_lt (Nat.mod_le _ _) hc
    obtain ⟨r1, r2⟩ := rp_ok (c := c % 2 ^ (1074 - k)) (k := k) hcl (by omega)
    obtain ⟨f1, f2⟩ := rp_ok (c := un 52 (sz a) / 2 ^ 1074) (k := 1074) (by omega) (by omega)
    have hR : FP.dsub (lN (sz a)).toUInt64 (FP.l2d (lN (un 52 (sz a) / 2 ^ 1074))) = rp (c % 2 ^ (1074 - k)) k := by
      rw [ps_l2d (by omega)]
      refine sub_eq hd f1 r1 ?_
      rw [hN, r2, f2, ← hrest, Nat.mul_comm (un 52 (sz a) / 2 ^ 1074)]
      exact (Nat.mod_add_div _ _).symm
    have hodd : lg_cmp (lN (un 52 (sz a) / 2 ^ 1074) - lN (un 52 (sz a) / 2 ^ 1074) / (2 : Int64) * (2 : Int64)) (0 : Int64) = 0 ↔ un 52 (sz a) / 2 ^ 1074 % 2 = 0 := by
      rw [show (2 : Int64) = lN 2 from rfl, pk_lRem (by omega) (by decide) (by decide), lg_cmp_eq, show (0 : Int64) = lN 0 from rfl, pk_lEQ (by omega) (by decide)]
    have hsg : 0 ≤ lg_cmp a 0 ↔ ¬ ng a = true := by rw [neg_iff, ng_t]; exact ⟨fun p q => q p, fun p => Decidable.byContradiction p⟩
    have hzr : zm (rp (c % 2 ^ (1074 - k)) k) = un 52 (sz a) % 2 ^ 1074 := by rw [r2, hrest]
    have hout : ∀ n : Nat, n ≤ 2 ^ 52 → ∃ x, mX1_withSignOf (mX1_ofSize (FP.l2d (lN n))) a = sgb (ng a) x ∧ x < 9218868437227405312 ∧ un 52 x = n * 2 ^ 1074 := by
      intro n hn
      obtain ⟨n1, n2⟩ := rp_ok (c := n) (k := 1074) (by omega) (by omega)
      refine ⟨(rp n 1074).toNat, ?_, n1, by rw [← un64, ← zm_bits n1, n2]⟩
      have hlt : (rp n 1074).toNat < 9218868437227405312 := n1
      rw [ps_l2d (by omega), ofs_ps n1, tu_lN, wsg (by omega)]
    have fin : ∀ o n : Int32, (o = 0 ↔ un 52 (sz a) / 2 ^ 1074 % 2 = 0) → (n = 0 ↔ ¬ ng a = true) → ∃ x, (if (mX5_growsInSize (rp (c % 2 ^ (1074 - k)) k) o n (nI way)) = 0 then (mX1_withSignOf (mX1_ofSize (FP.l2d (lN (un 52 (sz a) / 2 ^ 1074)))) a) else (mX1_withSignOf (mX1_ofSize (FP.l2d (lN (un 52 (sz a) / 2 ^ 1074) + (1 : Int64)))) a)) = sgb (ng a) x ∧ x < 9218868437227405312 ∧ un 52 x = rnd (2 ^ 1074) (un 52 (sz a)) (ng a) way * 2 ^ 1074 := by
      intro o n ho hn
      have hg := grows_iff r1 o n hw
      rw [hzr] at hg
      have h73 : (2 : Nat) ^ 1074 = 2 * 2 ^ 1073 := by rw [← Nat.pow_succ']
      have hcond : ((way = 0 ∧ ¬ n = 0 ∧ un 52 (sz a) % 2 ^ 1074 ≠ 0) ∨ (way = 1 ∧ n = 0 ∧ un 52 (sz a) % 2 ^ 1074 ≠ 0) ∨ (way = 2 ∧ (2 ^ 1073 < un 52 (sz a) % 2 ^ 1074 ∨ un 52 (sz a) % 2 ^ 1074 = 2 ^ 1073 ∧ ¬ o = 0))) ↔ ((way = 0 ∧ ng a = true ∧ un 52 (sz a) % 2 ^ 1074 ≠ 0) ∨ (way = 1 ∧ ng a = false ∧ un 52 (sz a) % 2 ^ 1074 ≠ 0) ∨ (way = 2 ∧ (2 ^ 1074 < 2 * (un 52 (sz a) % 2 ^ 1074) ∨ 2 ^ 1074 = 2 * (un 52 (sz a) % 2 ^ 1074) ∧ un 52 (sz a) / 2 ^ 1074 % 2 = 1))) := by
        have e1 : (¬ n = 0) ↔ ng a = true := by rw [hn]; exact Decidable.not_not
        have e2 : n = 0 ↔ ng a = false := by rw [hn, Bool.not_eq_true]
        have e3 : (¬ o = 0) ↔ un 52 (sz a) / 2 ^ 1074 % 2 = 1 := by rw [ho]; omega
        rw [e1, e2, e3]
        generalize un 52 (sz a) % 2 ^ 1074 = z at *
        generalize un 52 (sz a) / 2 ^ 1074 = z2 at *
        rw [h73]
        generalize (2 : Nat) ^ 1073 = hh at *
        have e4 : hh < z ↔ 2 * hh < 2 * z := by omega
        have e5 : z = hh ↔ 2 * hh = 2 * z := by omega
        rw [e4, e5]
      rw [hcond] at hg
      unfold rnd
      by_cases hgr : mX5_growsInSize (rp (c % 2 ^ (1074 - k)) k) o n (nI way) = 0
      · rw [if_pos hgr, if_neg (hg.mp hgr), Nat.add_zero]
        exact hout _ (by omega)
      · rw [if_neg hgr, if_pos (Decidable.byContradiction (fun q => hgr (hg.mpr q))), lN_1]
        exact hout _ (by omega)
    unfold mX5_whole
    rw [if_pos (cA.mpr (by omega)), hv, hD, hR]
    have one : ¬ (1 : Int32) = 0 := by decide
    by_cases k1 : un 52 (sz a) / 2 ^ 1074 % 2 = 0
    · rw [if_pos (hodd.mpr k1)]
      by_cases k2 : ng a = true
      · rw [if_neg (fun q => hsg.mp q k2)]
        exact fin 0 1 ⟨fun _ => k1, fun _ => rfl⟩ ⟨fun q => absurd q one, fun q => absurd k2 q⟩
      · rw [if_pos (hsg.mpr k2)]
        exact fin 0 0 ⟨fun _ => k1, fun _ => rfl⟩ ⟨fun _ => k2, fun _ => rfl⟩
    · rw [if_neg (fun q => k1 (hodd.mp q))]
      by_cases k2 : ng a = true
      · rw [if_neg (fun q => hsg.mp q k2)]
        exact fin 1 1 ⟨fun q => absurd q one, fun q => absurd q k1⟩ ⟨fun q => absurd q one, fun q => absurd k2 q⟩
      · rw [if_pos (hsg.mpr k2)]
        exact fin 1 0 ⟨fun q => absurd q one, fun q => absurd q k1⟩ ⟨fun _ => k2, fun _ => rfl⟩
theorem un52_inj {x y : Nat} (h : un 52 x = un 52 y) : x = y := by
  have h1 := un64_lt (m := x) (k := y)
  have h2 := un64_lt (m := y) (k := x)
  omega
theorem un23_inj {x y : Nat} (h : un 23 x = un 23 y) : x = y := by
  have h1 := un32_lt (m := x) (k := y)
  have h2 := un32_lt (m := y) (k := x)
  omega
/-- both wholes are one -/
theorem whole_eq {a : Int64} {way : Nat} (hw : way ≤ 3) (h : sz a ≤ 9218868437227405312) : mX5_whole a (nI way) = mX7_whole a (nI way) := by
  rcases Nat.eq_or_lt_of_le h with e | hlt
  · rw [mwhole hw h]
    unfold wN
    rw [if_pos (Or.inl (by omega))]
    unfold mX5_whole
    have cA : ¬ lg_cmp (a &&& (9223372036854775807 : Int64)) (4841369599423283200 : Int64) < 0 := by
      rw [and_size, lg_cmp_lt, show (4841369599423283200 : Int64) = lN (1075 * 2 ^ 52) from by decide, pk_lLT (by omega) (by decide)]; omega
    rw [if_neg cA]
    exact sgb_self a
  · obtain ⟨x, h1, h2, h3⟩ := cwhole hw hlt
    rw [h1, mwhole hw h]
    have hu := wN_units (t := 52) (B := 1023) (by decide) (by decide) (fun m k => un64_lt) (ng a) way (sz a)
    rw [show 52 + 1023 - 1 = 1074 from rfl, ← h3] at hu
    rw [un52_inj hu]
theorem rnd_scale (one N s : Nat) (hs : 0 < s) (neg : Bool) (way : Nat) : rnd (one * s) (N * s) neg way = rnd one N neg way := by
  unfold rnd
  rw [Nat.mul_div_mul_right _ _ hs, Nat.mul_mod_mul_right]
  have e1 : N % one * s ≠ 0 ↔ N % one ≠ 0 := by
    constructor
    · intro h q; rw [q, Nat.zero_mul] at h; exact h rfl
    · intro h; exact Nat.mul_ne_zero h (by omega)
  have e2 : one * s < 2 * (N % one * s) ↔ one < 2 * (N % one) := by rw [← Nat.mul_assoc, Nat.mul_lt_mul_right hs]
  have e3 : one * s = 2 * (N % one * s) ↔ one = 2 * (N % one) := by rw [← Nat.mul_assoc, Nat.mul_right_cancel_iff hs]
  simp only [e1, e2, e3]
/-- the class's whole of a float's double is the double of the model's whole of the float -/
theorem whole4_eq {y : Int32} {way : Nat} (hw : way ≤ 3) (h : sz4 y ≤ 2139095040) : mX5_whole (mX3_widened y) (nI way) = mX3_widened (mX7_whole4 y (nI way)) := by
  have hng : ng (mX3_widened y) = ng4 y := by
    have := sg_wide h
    unfold ng ng4
    exact decide_eq_decide.mpr (by omega)
  have hm := mwhole4 (a := y) hw h
  rcases Nat.eq_or_lt_of_le h with e | hlt
  · have h2 : mX7_whole4 y (nI way) = y := by
      rw [hm]
      unfold wN
      rw [if_pos (Or.inl (by omega))]
      exact (sgb4_self y).symm
    rw [h2]
    have hs := sz_wide h
    rw [e, Wd_inf] at hs
    rw [whole_eq hw (by omega), mwhole hw (by omega)]
    unfold wN
    rw [if_pos (Or.inl (by omega))]
    exact (sgb_self _).symm
  · have hs := sz_wide h
    obtain ⟨w1, w2⟩ := Wd_fin hlt
    rw [un64, un32] at w2
    obtain ⟨x, h1, h2, h3⟩ := cwhole (a := mX3_widened y) hw (by omega)
    have hu := wN_units (t := 23) (B := 127) (by decide) (by decide) (fun m k => un32_lt) (ng4 y) way (sz4 y)
    rw [show 23 + 127 - 1 = 149 from rfl] at hu
    rw [hs, w2, hng, show (2 : Nat) ^ 1074 = 2 ^ 149 * 2 ^ 925 from by rw [← Nat.pow_add], rnd_scale _ _ _ (Nat.two_pow_pos _), ← Nat.mul_assoc, ← hu] at h3
    have hfin : wN 23 127 (ng4 y) way (sz4 y) < 2139095040 := by
      rcases Nat.lt_or_ge (wN 23 127 (ng4 y) way (sz4 y)) 2139095040 with g | g
      · exact g
      · exfalso
        unfold wN at g
        split at g
        · omega
        · split at g
          · split at g <;> omega
          · unfold wR at g
            have hb : 2 ^ (23 - (sz4 y / 2 ^ 23 - 127)) ≤ 2 ^ 23 := Nat.pow_le_pow_right (by decide) (by omega)
            split at g
            · omega
            · split at g <;> omega
    obtain ⟨s1, s2⟩ := sgb4_sz (b := ng4 y) (x := wN 23 127 (ng4 y) way (sz4 y)) (by omega)
    obtain ⟨v1, v2⟩ := Wd_fin hfin
    rw [un64, un32, ← h3] at v2
    have hx : x = Wd (wN 23 127 (ng4 y) way (sz4 y)) := un52_inj v2.symm
    rw [h1, hng, hm]
    have hz := wide_un (y := sgb4 (ng4 y) (wN 23 127 (ng4 y) way (sz4 y))) (by rw [s1]; omega)
    rw [hz, s1, hx]
    unfold sgb
    have s3 : (sgb4 (ng4 y) (wN 23 127 (ng4 y) way (sz4 y))).toUInt32.toNat < 2 ^ 31 ↔ ¬ ng4 y = true := by
      have q := ng4_t (y := sgb4 (ng4 y) (wN 23 127 (ng4 y) way (sz4 y)))
      rw [s2] at q
      exact ⟨fun p h => q.mp h p, fun p => Decidable.byContradiction (fun z => p (q.mpr z))⟩
    by_cases hn : ng4 y = true
    · rw [if_pos hn, if_neg (fun q => s3.mp q hn)]
    · rw [if_neg hn, if_pos (s3.mpr hn)]
