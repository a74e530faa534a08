/-! ARITHMETIC: value and of are the bits; sums -/
theorem nnan_iff (a : Int64) : FP.Core.val64 a.toUInt64 ≠ .nan ↔ sz a ≤ 9218868437227405312 := by rw [FP.Core.ne_nan]; rfl
theorem isnan_iff (d : UInt64) : FP.dIsNaN d = false ↔ d.toNat % 2 ^ 63 ≤ 9218868437227405312 := by
  rw [show FP.dIsNaN d = FP.Core.dIsNaN d from rfl, FP.Core.notNaN_iff, FP.Core.ne_nan]
theorem isnan4_iff (d : UInt32) : FP.fIsNaN d = false ↔ d.toNat % 2 ^ 31 ≤ 2139095040 := by
  rw [show FP.fIsNaN d = FP.Core.fIsNaN d from rfl, FP.Core.notNaN_iff32, FP.Core.ne_nan32]
theorem dneg_un (x : UInt64) : (FP.dneg x).toNat = if x.toNat < 2 ^ 63 then x.toNat + 2 ^ 63 else x.toNat - 2 ^ 63 := by
  have ha := x.toNat_lt
  have hx : (FP.dneg x).toNat = x.toNat ^^^ 2 ^ 63 := by
    unfold FP.dneg; rw [UInt64.toNat_xor]; rfl
  have := Jvm.FP.xor_top (a := x.toNat) (k := 63) (by omega)
  rw [hx]
  split
  · exact this.1 (by omega)
  · exact this.2 (by omega)
theorem vos_all {a : Int64} (h : sz a ≤ 9218868437227405312) : mX1_valueOfSize a = (lN (sz a)).toUInt64 := by
  rcases Nat.eq_or_lt_of_le h with e | hlt
  · have : ¬ mX1_isInfinite a = 0 := fun q => (isInf_iff a).mp q e
    rw [mX1_valueOfSize, if_neg this, e]
    decide
  · exact vos_fin hlt
theorem value_eq {a : Int64} (h : sz a ≤ 9218868437227405312) : mX1_value a = a.toUInt64 := by
  have h1 := un_lt a
  have hl := lN_tu (n := sz a) (by omega)
  unfold mX1_value
  rw [vos_all h]
  by_cases h0 : a.toUInt64.toNat < 2 ^ 63
  · rw [if_pos ((neg_iff a).mpr h0)]
    apply UInt64.toNat_inj.mp
    rw [hl]; unfold sz; omega
  · rw [if_neg (fun q => h0 ((neg_iff a).mp q))]
    apply UInt64.toNat_inj.mp
    rw [dneg_un, hl, if_pos (by omega)]
    unfold sz; omega
theorem ofs_all {d : UInt64} (h : d.toNat ≤ 9218868437227405312) : mX1_ofSize d = d.toInt64 := by
  rcases Nat.eq_or_lt_of_le h with e | hlt
  · have : d = 9218868437227405312 := UInt64.toNat_inj.mp (by rw [e]; rfl)
    subst this
    decide +kernel
  · exact ofs_ps hlt
theorem ofs_nz : mX1_ofSize 9223372036854775808 = 0 := by decide +kernel
theorem dkey0 : FP.Core.dkey FP.dconst0 = 0 := by decide
theorem cmp0 {d : UInt64} (h : FP.dIsNaN d = false) (op : CmpOp) : (0 ≤ Op.cmpValue (FP.dcmp d FP.dconst0) op ↔ d.toNat ≤ 2 ^ 63) ∧ (Op.cmpValue (FP.dcmp d FP.dconst0) op = 0 ↔ d.toNat % 2 ^ 63 = 0) := by
  have h1 : FP.Core.val64 d ≠ .nan := (FP.Core.notNaN_iff d).mp h
  have h2 : FP.Core.val64 FP.dconst0 ≠ .nan := by decide +kernel
  have hk : FP.dcmp d FP.dconst0 = some (compare (FP.Core.dkey d) 0) := by rw [← dkey0]; exact FP.Core.dcmp_key h1 h2
  have hd := d.toNat_lt
  have hdk : FP.Core.dkey d = if 2 ^ 63 ≤ d.toNat then ((2 ^ 63 : Nat) : Int) - (d.toNat : Int) else (d.toNat : Int) := rfl
  rw [hk]
  rcases Int.lt_trichotomy (FP.Core.dkey d) 0 with g | g | g
  · rw [(FP.Core.compare_lt_iff _ _).mpr g]
    rw [hdk] at g
    refine ⟨⟨fun q => absurd q (by decide : ¬ (0 : Int32) ≤ -1), fun q => ?_⟩, ⟨fun q => absurd q (by decide : ¬ (-1 : Int32) = 0), fun q => ?_⟩⟩
    · split at g <;> omega
    · split at g <;> omega
  · rw [(FP.Core.compare_eq_iff _ _).mpr g]
    rw [hdk] at g
    refine ⟨⟨fun _ => ?_, fun _ => (by decide : (0 : Int32) ≤ 0)⟩, ⟨fun _ => ?_, fun _ => rfl⟩⟩
    · split at g <;> omega
    · split at g <;> omega
  · rw [(FP.Core.compare_gt_iff _ _).mpr g]
    rw [hdk] at g
    refine ⟨⟨fun _ => ?_, fun _ => (by decide : (0 : Int32) ≤ 1)⟩, ⟨fun q => absurd q (by decide : ¬ (1 : Int32) = 0), fun q => ?_⟩⟩
    · split at g <;> omega
    · split at g <;> omega
theorem of_eq {d : UInt64} (h : FP.dIsNaN d = false) (hz : d.toNat % 2 ^ 63 ≠ 0) : mX1_of d = d.toInt64 := by
  have hn := (isnan_iff d).mp h
  have hd := d.toNat_lt
  unfold mX1_of
  by_cases h0 : d.toNat ≤ 2 ^ 63
  · rw [if_pos ((cmp0 h .g).1.mpr h0)]
    exact ofs_all (by omega)
  · rw [if_neg (fun q => h0 ((cmp0 h .g).1.mp q))]
    have e : (FP.dneg d).toNat = d.toNat - 2 ^ 63 := by rw [dneg_un, if_neg (by omega)]
    rw [ofs_all (by omega), tu_lN, tu_lN, e, or_sign (by omega)]
    exact congrArg lN (by omega)
/-- a sum of two numbers that is a zero has the sign - only if both have it -/
theorem zsum {f : FP.Core.Fmt} (hf : FP.Core.Good f) {x y : FP.Core.Datum} (hx : FP.Core.fits f x) (hy : FP.Core.fits f y) {s : Bool} {q : Int} (h : FP.Core.round f (FP.Core.exactSum x y) = .fin s 0 q) : s = (FP.Core.sgn x && FP.Core.sgn y) := by
  cases x with
  | nan => simp [FP.Core.exactSum, FP.Core.round] at h
  | inf sx =>
    cases y with
    | nan => simp [FP.Core.exactSum, FP.Core.round] at h
    | inf sy => simp only [FP.Core.exactSum] at h; split at h <;> simp [FP.Core.round] at h
    | fin sy d r => simp [FP.Core.exactSum, FP.Core.round] at h
  | fin sx c w =>
    cases y with
    | nan => simp [FP.Core.exactSum, FP.Core.round] at h
    | inf sy => simp [FP.Core.exactSum, FP.Core.round] at h
    | fin sy d r =>
      have hq1 : f.qmin ≤ w := hx.2.1
      have hq2 : f.qmin ≤ r := hy.2.1
      have h' : FP.Core.roundRatio f (FP.Core.sumSign sx sy (FP.Core.sumUnits sx c w sy d r (min w r))) (FP.Core.sumUnits sx c w sy d r (min w r)).natAbs 1 (min w r) = .fin s 0 q := h
      generalize hv : FP.Core.sumUnits sx c w sy d r (min w r) = v at h'
      have hsg := FP.Core.sgn_roundRatio f (FP.Core.sumSign sx sy v) v.natAbs 1 (min w r)
      rw [h'] at hsg
      have hs : s = FP.Core.sumSign sx sy v := hsg
      by_cases hz : v = 0
      · rw [hs]
        unfold FP.Core.sumSign
        rw [if_pos hz]
        rfl
      · exfalso
        have hV : FP.Core.fits f (.fin false 1 f.qmin) := by
          have := FP.Core.two_tails hf
          have h2 := FP.Core.tails_two hf
          have h3 := FP.Core.qmax_qmin f
          have h4 := FP.Core.emax_pos hf
          exact ⟨by omega, Int.le_refl _, by omega, Or.inl rfl⟩
        have hge := FP.Core.zmag_roundRatio_ge hf (s := FP.Core.sumSign sx sy v) (A := v.natAbs) (B := 1) (e := min w r) (e0 := f.qmin) (V := .fin false 1 f.qmin) (by decide) hV (Int.le_refl _) (by omega) (by
          show FP.Core.inUnits 1 f.qmin f.qmin * 2 ^ (f.qmin - f.qmin).toNat * 1 ≤ FP.Core.inUnits v.natAbs (min w r) f.qmin
          unfold FP.Core.inUnits
          rw [Int.sub_self]
          have hp := Nat.two_pow_pos (min w r - f.qmin).toNat
          have hv1 : 1 ≤ v.natAbs := by omega
          simp
          exact Nat.mul_pos hv1 hp)
        rw [h'] at hge
        have e1 : FP.Core.zmag f (.fin false 1 f.qmin) = 1 := by
          show FP.Core.inUnits 1 f.qmin f.qmin = 1
          unfold FP.Core.inUnits
          rw [Int.sub_self]; rfl
        have e2 : FP.Core.zmag f (.fin s 0 q) = 0 := by
          show FP.Core.inUnits 0 q f.qmin = 0
          unfold FP.Core.inUnits
          rw [Nat.zero_mul]
        omega
