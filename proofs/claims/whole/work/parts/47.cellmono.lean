/-! CELLS AND MARKS keep the order -/
theorem quo_sz {a s : Int64} (ha : sz a ≤ 9218868437227405312) (hs : StepD s) : sz (FP.ddiv a.toUInt64 s.toUInt64).toInt64 = (FP.ddiv (lN (sz a)).toUInt64 s.toUInt64).toNat := by
  have hx : (lN (sz a)).toUInt64.toNat ≤ 9218868437227405312 := by rw [size_un ha]; exact ha
  have hq := div_le hs.1 hs.2 hx
  rw [← quo_w ha hs, hs.vos, vos_all ha, ofs_all hq, tu_lN, wsg (by omega)]
  exact (sgb_sz (by omega)).1
theorem quo4_sz {y g : Int32} (hy : sz4 y ≤ 2139095040) (hs : StepF g) : sz4 (FP.fdiv y.toUInt32 g.toUInt32).toInt32 = (FP.fdiv (nI (sz4 y)).toUInt32 g.toUInt32).toNat := by
  have hx : (nI (sz4 y)).toUInt32.toNat ≤ 2139095040 := by rw [size4_un]; exact hy
  have hq := fdiv_le hs.1 hs.2 hx
  by_cases h : ng4 y = true
  · rw [un4_neg h, fdiv_neg hs.1 hs.2 hx]
    generalize FP.fdiv (nI (sz4 y)).toUInt32 g.toUInt32 = z at *
    unfold sz4
    rw [un4_toInt32, fneg_un, if_pos (by omega)]
    omega
  · rw [un4_pos h]
    generalize FP.fdiv (nI (sz4 y)).toUInt32 g.toUInt32 = z at *
    unfold sz4
    rw [un4_toInt32]
    omega
/-- the whole part of a whole, by its size -/
theorem whole_V {a b : Int64} {way : Nat} (hw : way ≤ 3) (ha : sz a ≤ 9218868437227405312) (hb : sz b ≤ 9218868437227405312) (hn : ng a = ng b) (h : sz a ≤ sz b) : un 52 (sz (mX7_whole a (nI way))) / 2 ^ 1074 ≤ un 52 (sz (mX7_whole b (nI way))) / 2 ^ 1074 := by
  refine Nat.div_le_div_right ?_
  have hone : 0 < 2 ^ 1074 := Nat.two_pow_pos _
  rcases Nat.eq_or_lt_of_le hb with e | hlt
  · have h2 : mX7_whole b (nI way) = b := by
      rw [mwhole hw hb]
      unfold wN
      rw [if_pos (Or.inl (by omega))]
      exact (sgb_self b).symm
    rw [h2, e, un_le]
    exact (whole_nn hw ha).1
  · obtain ⟨x, x1, x2, x3⟩ := cwhole (a := a) hw (by omega)
    obtain ⟨y, y1, y2, y3⟩ := cwhole (a := b) hw hlt
    rw [← whole_eq hw ha, ← whole_eq hw hb, x1, y1, (sgb_sz (by omega)).1, (sgb_sz (by omega)).1, x3, y3, hn]
    exact Nat.mul_le_mul_right _ (rnd_mono hone (un_le.mpr h) _ _)
theorem d2i_V {W : Int64} (h : sz W ≤ 9218868437227405312) : (FP.d2i W.toUInt64).toInt = max (-2 ^ 31) (min (2 ^ 31 - 1) (if ng W = true then -((un 52 (sz W) / 2 ^ 1074 : Nat) : Int) else ((un 52 (sz W) / 2 ^ 1074 : Nat) : Int))) := by
  have hn : FP.Core.val64 W.toUInt64 ≠ .nan := (nnan_iff W).mpr h
  show (FP.Core.d2i W.toUInt64).toInt = _
  rw [FP.Core.d2i_val hn, FP.Core.sgn_bits hn, FP.Core.zmag_bits hn, show W.toUInt64.toNat % 2 ^ 63 = sz W from rfl, un64]
  show max (-2 ^ 31) (min (2 ^ 31 - 1) (if ng W = true then -((un 52 (sz W) / 2 ^ 1074 : Nat) : Int) else ((un 52 (sz W) / 2 ^ 1074 : Nat) : Int))) = _
  rfl
theorem size_ps {a : Int64} (h : sz a < 9218868437227405312) : Ps (lN (sz a)).toUInt64 := by unfold Ps; rw [size_un (by omega)]; exact h
theorem cell_mono {a b s : Int64} (ha : sz a < 9218868437227405312) (hb : sz b < 9218868437227405312) (hs : StepD s) (h : ky a ≤ ky b) : FP.d2i (mX7_whole (FP.ddiv a.toUInt64 s.toUInt64).toInt64 (nI 0)).toUInt64 ≤ FP.d2i (mX7_whole (FP.ddiv b.toUInt64 s.toUInt64).toInt64 (nI 0)).toUInt64 := by
  obtain ⟨a1, a2⟩ := quo_nn (a := a) (by omega) hs
  obtain ⟨b1, b2⟩ := quo_nn (a := b) (by omega) hs
  obtain ⟨w1, w2⟩ := whole_nn (way := 0) (by decide) a1
  obtain ⟨v1, v2⟩ := whole_nn (way := 0) (by decide) b1
  have mono : ∀ {x y : Int64}, sz x < 9218868437227405312 → sz y < 9218868437227405312 → ng x = ng y → sz x ≤ sz y → un 52 (sz (mX7_whole (FP.ddiv x.toUInt64 s.toUInt64).toInt64 (nI 0))) / 2 ^ 1074 ≤ un 52 (sz (mX7_whole (FP.ddiv y.toUInt64 s.toUInt64).toInt64 (nI 0))) / 2 ^ 1074 := by
    intro x y hx hy hn hxy
    obtain ⟨x1, x2⟩ := quo_nn (a := x) (by omega) hs
    obtain ⟨y1, y2⟩ := quo_nn (a := y) (by omega) hs
    refine whole_V (by decide) x1 y1 (by rw [x2, y2, hn]) ?_
    rw [quo_sz (by omega) hs, quo_sz (by omega) hs]
    exact div_mono hs.1 hs.2 (size_ps hx) (size_ps hy) (by rw [size_un (by omega), size_un (by omega)]; exact hxy)
  rw [Int32.le_iff_toInt_le, d2i_V w1, d2i_V v1, w2, a2, v2, b2]
  have hka : ky a = if a.toUInt64.toNat < 2 ^ 63 then (sz a : Int) else -1 - (sz a : Int) := rfl
  have hkb : ky b = if b.toUInt64.toNat < 2 ^ 63 then (sz b : Int) else -1 - (sz b : Int) := rfl
  rw [hka, hkb] at h
  by_cases na : ng a = true <;> by_cases nb : ng b = true
  · rw [if_neg (ng_t.mp na), if_neg (ng_t.mp nb)] at h
    have := mono hb ha (by rw [na, nb]) (by omega)
    rw [if_pos na, if_pos nb]
    omega
  · rw [if_pos na, if_neg nb]
    omega
  · rw [if_neg (ng_t.mp nb), if_pos (Decidable.byContradiction (fun q => na (ng_t.mpr q)))] at h
    omega
  · rw [if_pos (Decidable.byContradiction (fun q => na (ng_t.mpr q))), if_pos (Decidable.byContradiction (fun q => nb (ng_t.mpr q)))] at h
    have := mono ha hb (by rw [Bool.eq_false_iff.mpr na, Bool.eq_false_iff.mpr nb]) (by omega)
    rw [if_neg na, if_neg nb]
    omega
theorem whole4_un {y : Int32} {way : Nat} (hw : way ≤ 3) (h : sz4 y ≤ 2139095040) : un 23 (sz4 (mX7_whole4 y (nI way))) = rnd (2 ^ 149) (un 23 (sz4 y)) (ng4 y) way * 2 ^ 149 := by
  have hb := (whole4_nn hw h).1
  have hu := wN_units (t := 23) (B := 127) (by decide) (by decide) (fun m k => un32_lt) (ng4 y) way (sz4 y)
  rw [show 23 + 127 - 1 = 149 from rfl] at hu
  rw [← hu]
  rw [mwhole4 hw h] at hb ⊢
  have hx : wN 23 127 (ng4 y) way (sz4 y) < 2 ^ 31 := by
    unfold wN
    split
    · exact sz4_lt y
    · split
      · split <;> omega
      · unfold wR
        have hp : 2 ^ (23 - (sz4 y / 2 ^ 23 - 127)) ≤ 2 ^ 23 := Nat.pow_le_pow_right (by decide) (by omega)
        split
        · exact sz4_lt y
        · split <;> omega
  rw [(sgb4_sz hx).1]
theorem f2l_V {W : Int32} (h : sz4 W ≤ 2139095040) : (FP.f2l W.toUInt32).toInt = max (-2 ^ 63) (min (2 ^ 63 - 1) (if ng4 W = true then -((un 23 (sz4 W) / 2 ^ 149 : Nat) : Int) else ((un 23 (sz4 W) / 2 ^ 149 : Nat) : Int))) := by
  have hn : FP.Core.val32 W.toUInt32 ≠ .nan := (FP.Core.notNaN_iff32 _).mp (nan4_of h)
  show (FP.Core.f2l W.toUInt32).toInt = _
  rw [FP.Core.f2l_val hn, FP.Core.sgn_bits32 hn, FP.Core.zmag_bits32 hn, show W.toUInt32.toNat % 2 ^ 31 = sz4 W from rfl, un32]
  show max (-2 ^ 63) (min (2 ^ 63 - 1) (if ng4 W = true then -((un 23 (sz4 W) / 2 ^ 149 : Nat) : Int) else ((un 23 (sz4 W) / 2 ^ 149 : Nat) : Int))) = _
  rfl
theorem mark_mono {a b g : Int32} (ha : sz4 a < 2139095040) (hb : sz4 b < 2139095040) (hs : StepF g) (h : ky4 a ≤ ky4 b) : FP.f2l (mX7_whole4 (FP.fdiv a.toUInt32 g.toUInt32).toInt32 (nI 2)).toUInt32 ≤ FP.f2l (mX7_whole4 (FP.fdiv b.toUInt32 g.toUInt32).toInt32 (nI 2)).toUInt32 := by
  obtain ⟨a1, a2⟩ := quo4_nn (y := a) (by omega) hs
  obtain ⟨b1, b2⟩ := quo4_nn (y := b) (by omega) hs
  obtain ⟨w1, w2⟩ := whole4_nn (way := 2) (by decide) a1
  obtain ⟨v1, v2⟩ := whole4_nn (way := 2) (by decide) b1
  have mono : ∀ {x y : Int32}, sz4 x < 2139095040 → sz4 y < 2139095040 → ng4 x = ng4 y → sz4 x ≤ sz4 y → un 23 (sz4 (mX7_whole4 (FP.fdiv x.toUInt32 g.toUInt32).toInt32 (nI 2))) / 2 ^ 149 ≤ un 23 (sz4 (mX7_whole4 (FP.fdiv y.toUInt32 g.toUInt32).toInt32 (nI 2))) / 2 ^ 149 := by
    intro x y hx hy hn hxy
    obtain ⟨x1, x2⟩ := quo4_nn (y := x) (by omega) hs
    obtain ⟨y1, y2⟩ := quo4_nn (y := y) (by omega) hs
    refine Nat.div_le_div_right ?_
    rw [whole4_un (by decide) x1, whole4_un (by decide) y1, x2, y2, hn]
    refine Nat.mul_le_mul_right _ (rnd_mono (Nat.two_pow_pos _) (un4_le.mpr ?_) _ _)
    rw [quo4_sz (by omega) hs, quo4_sz (by omega) hs]
    exact fdiv_mono hs.1 hs.2 (by rw [size4_un]; exact hx) (by rw [size4_un]; exact hy) (by rw [size4_un, size4_un]; exact hxy)
  rw [Int64.le_iff_toInt_le, f2l_V w1, f2l_V v1, w2, a2, v2, b2]
  have hka : ky4 a = if a.toUInt32.toNat < 2 ^ 31 then (sz4 a : Int) else -1 - (sz4 a : Int) := rfl
  have hkb : ky4 b = if b.toUInt32.toNat < 2 ^ 31 then (sz4 b : Int) else -1 - (sz4 b : Int) := rfl
  rw [hka, hkb] at h
  by_cases na : ng4 a = true <;> by_cases nb : ng4 b = true
  · rw [if_neg (ng4_t.mp na), if_neg (ng4_t.mp nb)] at h
    have := mono hb ha (by rw [na, nb]) (by omega)
    rw [if_pos na, if_pos nb]
    omega
  · rw [if_pos na, if_neg nb]
    omega
  · rw [if_neg (ng4_t.mp nb), if_pos (Decidable.byContradiction (fun q => na (ng4_t.mpr q)))] at h
    omega
  · rw [if_pos (Decidable.byContradiction (fun q => na (ng4_t.mpr q))), if_pos (Decidable.byContradiction (fun q => nb (ng4_t.mpr q)))] at h
    have := mono ha hb (by rw [Bool.eq_false_iff.mpr na, Bool.eq_false_iff.mpr nb]) (by omega)
    rw [if_neg na, if_neg nb]
    omega
/-! the model's order of floats -/
theorem order4_ky (y : Int32) : (mX7_order4 y).toInt = ky4 y := by
  unfold mX7_order4 ky4
  have h1 := un4_lt y
  by_cases h : y.toUInt32.toNat < 2 ^ 31
  · rw [if_pos ((neg4_iff y).mpr h), if_pos h]
    have : sz4 y = y.toUInt32.toNat := Nat.mod_eq_of_lt h
    rw [this, ← nI_toInt (n := y.toUInt32.toNat) h, ← nI_un y]
  · rw [if_neg (fun q => h ((neg4_iff y).mp q)), if_neg h]
    unfold mX7_size4
    have h3 := sz4_lt y
    rw [and_size4, Int32.toInt_sub, nI_toInt h3, show (-1 : Int32).toInt = -1 from by decide, Int.bmod_eq_of_le (by omega) (by omega)]
theorem ky4_inj {a b : Int32} (h : ky4 a = ky4 b) : a = b := by
  have h1 := un4_lt a
  have h2 := un4_lt b
  apply n4_inj
  unfold ky4 sz4 at h
  split at h <;> split at h <;> omega
theorem mlesser4_ky (a b : Int32) : mX7_lesser4 a b = if ky4 a ≤ ky4 b then a else b := by
  unfold mX7_lesser4
  have h : mX7_order4 b ≤ mX7_order4 a ↔ ky4 b ≤ ky4 a := by rw [Int32.le_iff_toInt_le, order4_ky, order4_ky]
  by_cases h1 : ky4 b ≤ ky4 a
  · rw [if_pos (h.mpr h1)]
    by_cases h2 : ky4 a ≤ ky4 b
    · rw [if_pos h2, ky4_inj (Int.le_antisymm h2 h1)]
    · rw [if_neg h2]
  · rw [if_neg (fun q => h1 (h.mp q)), if_pos (by omega)]
theorem mgreater4_ky (a b : Int32) : mX7_greater4 a b = if ky4 b ≤ ky4 a then a else b := by
  unfold mX7_greater4
  have h : mX7_order4 a ≤ mX7_order4 b ↔ ky4 a ≤ ky4 b := by rw [Int32.le_iff_toInt_le, order4_ky, order4_ky]
  by_cases h1 : ky4 a ≤ ky4 b
  · rw [if_pos (h.mpr h1)]
    by_cases h2 : ky4 b ≤ ky4 a
    · rw [if_pos h2, ky4_inj (Int.le_antisymm h1 h2)]
    · rw [if_neg h2]
  · rw [if_neg (fun q => h1 (h.mp q)), if_pos (by omega)]
theorem lesser_wd {a b : Int32} (ha : sz4 a ≤ 2139095040) (hb : sz4 b ≤ 2139095040) : mX1_lesser (mX3_widened a) (mX3_widened b) = mX3_widened (mX7_lesser4 a b) := by
  rw [lesser_ky, mlesser4_ky]
  by_cases h : ky4 a ≤ ky4 b
  · rw [if_pos h, if_pos ((ky_wide ha hb).mpr h)]
  · rw [if_neg h, if_neg (fun q => h ((ky_wide ha hb).mp q))]
theorem greater_wd {a b : Int32} (ha : sz4 a ≤ 2139095040) (hb : sz4 b ≤ 2139095040) : mX1_greater (mX3_widened a) (mX3_widened b) = mX3_widened (mX7_greater4 a b) := by
  rw [greater_ky, mgreater4_ky]
  by_cases h : ky4 b ≤ ky4 a
  · rw [if_pos h, if_pos ((ky_wide hb ha).mpr h)]
  · rw [if_neg h, if_neg (fun q => h ((ky_wide hb ha).mp q))]
