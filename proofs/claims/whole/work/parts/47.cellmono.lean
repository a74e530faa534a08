/-! CELLS AND MARKS keep the order -/
theorem quo_sz {a s : Int64} (ha : sz a ≤ 9218868437227405312) (hs : StepD s) : sz (FP.ddiv a.toUInt64 s.toUInt64).toInt64 = (FP.ddiv (lN (sz a)).toUInt64 s.toUInt64).toNat := by
  have hx : (lN (sz a)).toUInt64.toNat ≤ 9218868437227405312 := by rw [size_un ha]; exact ha
  have hq := div_le hs.1 hs.2 hx
  rw [← quo_w ha hs, hs.vos, vos_all ha, ofs_all hq, tu_lN, wsg (by omega)]
  exact (sgb_sz (by omega)).1
theorem quo4_sz {y g : Int32} (hy : sz4 y ≤ 2139095040) (hs : StepF g) : sz4 (FP.fdiv y.toUInt32 g.toUInt32).toInt32 = (FP.fdiv (nI (sz4 y)).toUInt32 g.toUInt32).toNat := by
  have hx : (nI (sz4 y)).toUInt32.toNat ≤ 2139095040 := by rw [size4_un]; exact hy
  have hq := fdiv_le hs.1 hs.2 hx
  by_cases h : ng4 y = true
  · rw [un4_neg h, fdiv_neg hs.1 hs.2 hx]
    generalize FP.fdiv (nI (sz4 y)).toUInt32 g.toUInt32 = z at *
    unfold sz4
    rw [un4_toInt32, fneg_un, if_pos (by omega)]
    omega
  · rw [un4_pos h]
    generalize FP.fdiv (nI (sz4 y)).toUInt32 g.toUInt32 = z at *
    unfold sz4
    rw [un4_toInt32]
    omega
/-- the whole part of a whole, by its size -/
theorem whole_V {a b : Int64} {way : Nat} (hw : way ≤ 3) (ha : sz a ≤ 9218868437227405312) (hb : sz b ≤ 9218868437227405312) (hn : ng a = ng b) (h : sz a ≤ sz b) : un 52 (sz (mX7_whole a (nI way))) / 2 ^ 1074 ≤ un 52 (sz (mX7_whole b (nI way))) / 2 ^ 1074 := by
  refine Nat.div_le_div_right ?_
  have hone : 0 < 2 ^ 1074 := Nat.two_pow_pos _
  rcases Nat.eq_or_lt_of_le hb with e | hlt
  · have h2 : mX7_whole b (nI way) = b := by
      rw [mwhole hw hb]
      unfold wN
      rw [if_pos (Or.inl (by omega))]
      exact (sgb_self b).symm
    rw [h2, e, un_le]
    exact (whole_nn hw ha).1
  · obtain ⟨x, x1, x2, x3⟩ := cwhole (a := a) hw (by omega)
    obtain ⟨y, y1, y2, y3⟩ := cwhole (a := b) hw hlt
    rw [← whole_eq hw ha, ← whole_eq hw hb, x1, y1, (sgb_sz (by omega)).1, (sgb_sz (by omega)).1, x3, y3, hn]
    exact Nat.mul_le_mul_right _ (rnd_mono hone (un_le.mpr h) _ _)
theorem d2i_V {W : Int64} (h : sz W ≤ 9218868437227405312) : (FP.d2i W.toUInt64).toInt = max (-2 ^ 31) (min (2 ^ 31 - 1) (if ng W = true then -((un 52 (sz W) / 2 ^ 1074 : Nat) : Int) else ((un 52 (sz W) / 2 ^ 1074 : Nat) : Int))) := by
  have hn : FP.Core.val64 W.toUInt64 ≠ .nan := (nnan_iff W).mpr h
  show (FP.Core.d2i W.toUInt64).toInt = _
  rw [FP.Core.d2i_val hn, FP.Core.sgn_bits hn, FP.Core.zmag_bits hn, show W.toUInt64.toNat % 2 ^ 63 = sz W from rfl, un64]
  show max (-2 ^ 31) (min (2 ^ 31 - 1) (if ng W = true then -((un 52 (sz W) / 2 ^ 1074 : Nat) : Int) else ((un 52 (sz W) / 2 ^ 1074 : Nat) : Int))) = _
  rfl
theorem size_ps {a : Int64} (h : sz a < 9218868437227405312) : Ps (lN (sz a)).toUInt64 := by unfold Ps; rw [size_un (by omega)]; exact h
theorem cell_mono {a b s : Int64} (ha : sz a < 9218868437227405312) (hb : sz b < 9218868437227405312) (hs : StepD s) (h : ky a ≤ ky b) : FP.d2i (mX7_whole (FP.ddiv a.toUInt64 s.toUInt64).toInt64 (nI 0)).toUInt64 ≤ FP.d2i (mX7_whole (FP.ddiv b.toUInt64 s.toUInt64).toInt64 (nI 0)).toUInt64 := by
  obtain ⟨a1, a2⟩ := quo_nn (a := a) (by omega) hs
  obtain ⟨b1, b2⟩ := quo_nn (a := b) (by omega) hs
  obtain ⟨w1, w2⟩ := whole_nn (way := 0) (by decide) a1
  obtain ⟨v1, v2⟩ := whole_nn (way := 0) (by decide) b1
  have mono : ∀ {x y : Int64}, sz x < 9218868437227405312 → sz y < 9218868437227405312 → ng x = ng y → sz x ≤ sz y → un 52 (sz (mX7_whole (FP.ddiv x.toUInt64 s.toUInt64).toInt64 (nI 0))) / 2 ^ 1074 ≤ un 52 (sz (mX7_whole (FP.ddiv y.toUInt64 s.toUInt64).toInt64 (nI 0))) / 2 ^ 1074 := by
    intro x y hx hy hn hxy
    obtain ⟨x1, x2⟩ := quo_nn (a := x) (by omega) hs
    obtain ⟨y1, y2⟩ := quo_nn (a := y) (by omega) hs
    refine whole_V (by decide) x1 y1 (by rw [x2, y2, hn]) ?_
    rw [quo_sz (by omega) hs, quo_sz (by omega) hs]
    exact div_mono hs.1 hs.2 (size_ps hx) (size_ps hy) (by rw [size_un (by omega), size_un (by omega)]; exact hxy)
  rw [Int32.le_iff_toInt_le, d2i_V w1, d2i_V v1, w2, a2, v2, b2]
  have hka : ky a = if a.toUInt64.toNat < 2 ^ 63 then (sz a : Int) else -1 - (sz a : Int) := rfl
  have hkb : ky b = if b.toUInt64.toNat < 2 ^ 63 then (sz b : Int) else -1 - (sz b : Int) := rfl
  rw [hka, hkb] at h
  by_cases na : ng a = true <;> by_cases nb : ng b = true
  · rw [if_neg (ng_t.mp na), if_neg (ng_t.mp nb)] at h
    have := mono hb ha (by rw [na, nb]) (by omega)
    rw [if_pos na, if_pos nb]
    omega
  · rw [if_pos na, if_neg nb]
    omega
  · rw [if_neg (ng_t.mp nb), if_pos (Decidable.byContradiction (fun q => na (ng_t.mpr q)))] at h
    omega
  · rw [if_pos (Decidable.byContradiction (fun q => na (ng_t.mpr q))), if_pos (Decidable.byContradiction (fun q => nb (ng_t.mpr q)))] at h
    have := mono ha hb (by rw [Bool.eq_false_iff.mpr na, Bool.eq_false_iff.mpr nb]) (by omega)
    rw [if_neg na, if_neg nb]
    omega
