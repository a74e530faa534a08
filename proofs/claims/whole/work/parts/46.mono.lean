/-! MONOTONE: rounding keeps the order -/
theorem rr_mono {f : FP.Core.Fmt} (hf : FP.Core.Good f) {A A' B : Nat} {e e' e0 : Int} (hB : 0 < B) (h0 : e0 < f.qmin) (h0e : e0 ≤ e) (h0e' : e0 ≤ e') (h : FP.Core.inUnits A e e0 ≤ FP.Core.inUnits A' e' e0) (s : Bool) : FP.Core.zmag f (FP.Core.roundRatio f s A B e) ≤ FP.Core.zmag f (FP.Core.roundRatio f s A' B e') := by
  have fit1 := FP.Core.roundRatio_fits hf s A hB e
  have fit2 := FP.Core.roundRatio_fits hf s A' hB e'
  rcases FP.Core.roundRatio_cases f s A' B e' with ⟨c', q', r2⟩ | r2
  · rcases FP.Core.roundRatio_cases f s A B e with ⟨c, q, r1⟩ | r1
    · rcases Nat.lt_or_ge (FP.Core.zmag f (FP.Core.roundRatio f s A' B e')) (FP.Core.zmag f (FP.Core.roundRatio f s A B e)) with hgt | hle
      · exfalso
        have d1 := FP.Core.roundRatio_nearest hf hB r1 (c' := c') (q' := q') (e0 := e0) (by rw [r2] at fit2; exact fit2.1) (by rw [r2] at fit2; exact fit2.2.1) (by omega) h0e
        have d2 := FP.Core.roundRatio_nearest hf hB r2 (c' := c) (q' := q) (e0 := e0) (by rw [r1] at fit1; exact fit1.1) (by rw [r1] at fit1; exact fit1.2.1) (by omega) h0e'
        rw [r1] at fit1 hgt
        rw [r2] at fit2 hgt
        have k1 := FP.Core.units_fin fit1 (show e0 ≤ f.qmin by omega)
        have k2 := FP.Core.units_fin fit2 (show e0 ≤ f.qmin by omega)
        have hK : FP.Core.inUnits c' q' e0 < FP.Core.inUnits c q e0 := by
          rw [k1, k2]; exact Nat.mul_lt_mul_of_pos_right hgt (Nat.two_pow_pos _)
        unfold FP.Core.distance at d1 d2
        have hKB : FP.Core.inUnits c' q' e0 * B < FP.Core.inUnits c q e0 * B := Nat.mul_lt_mul_of_pos_right hK hB
        have hXY : FP.Core.inUnits A e e0 = FP.Core.inUnits A' e' e0 := by
          rw [← Int.natCast_mul, ← Int.natCast_mul] at d1 d2
          generalize FP.Core.inUnits c' q' e0 * B = b at *
          generalize FP.Core.inUnits c q e0 * B = a at *
          generalize FP.Core.inUnits A e e0 = X at *
          generalize FP.Core.inUnits A' e' e0 = Y at *
          omega
        have hcg : FP.Core.roundRatio f s A B e = FP.Core.roundRatio f s A' B e' := by
          refine FP.Core.roundRatio_congr hB hB ?_
          unfold FP.Core.inUnits at hXY
          have h3 := pw_cancel hXY
          rw [show (e - e').toNat = (e - e0).toNat - (e' - e0).toNat by omega, show (e' - e).toNat = (e' - e0).toNat - (e - e0).toNat by omega]
          rw [Nat.mul_assoc, Nat.mul_comm B, ← Nat.mul_assoc, h3, Nat.mul_assoc, Nat.mul_comm _ B, ← Nat.mul_assoc]
        rw [r1, r2] at hcg
        rw [hcg] at hgt
        exact Nat.lt_irrefl _ hgt
      · exact hle
    · exfalso
      have hi := (FP.Core.roundRatio_inf hf (s := s) (A := A) (B := B) (e := e) (e0 := e0) hB h0 h0e).mp r1
      have := (FP.Core.roundRatio_inf hf (s := s) (A := A') (B := B) (e := e') (e0 := e0) hB h0 h0e').mpr (Nat.le_trans hi h)
      rw [r2] at this
      cases this
  · have := FP.Core.zmag_le_top hf fit1
    rw [r2]
    exact this
theorem zm_all {d : UInt64} (h : d.toNat ≤ 9218868437227405312) : zm d = un 52 d.toNat := by
  unfold zm
  rw [FP.Core.zmag_bits ((FP.Core.notNaN_iff d).mp (nan_le h)), Nat.mod_eq_of_lt (by omega), un64]
theorem un_le {x y : Nat} : un 52 x ≤ un 52 y ↔ x ≤ y := by
  have := un64_lt (m := y) (k := x); omega
theorem un4_le {x y : Nat} : un 23 x ≤ un 23 y ↔ x ≤ y := by
  have := un32_lt (m := y) (k := x); omega
theorem div_mono {x y s : UInt64} (hs : Ps s) (h0 : s.toNat ≠ 0) (hx : Ps x) (hy : Ps y) (h : x.toNat ≤ y.toNat) : (FP.ddiv x s).toNat ≤ (FP.ddiv y s).toNat := by
  obtain ⟨d, r, e2⟩ := hs.fin
  have hd := ps_nz hs h0 e2
  obtain ⟨c, q, e1⟩ := hx.fin
  obtain ⟨c', q', e3⟩ := hy.fin
  obtain ⟨z1, g1⟩ := zm_fin e1
  obtain ⟨z3, g3⟩ := zm_fin e3
  have hr : r ≤ 971 := by
    have := FP.Core.val64_fits s
    rw [e2] at this
    have h9 := this.2.2.1
    rw [show FP.Core.b64.qmax = 971 from by decide] at h9
    exact h9
  have hz : zm x ≤ zm y := by rw [zm_bits hx, zm_bits hy, FP.Core.unitsOf_le_iff]; exact h
  have v1 : FP.Core.val64 (FP.Core.ddiv x s) = FP.Core.roundRatio FP.Core.b64 false c d (q - r) := by
    rw [FP.Core.val64_ddiv, e1, e2]
    show (if d = 0 then _ else _) = _
    rw [if_neg hd]; rfl
  have v3 : FP.Core.val64 (FP.Core.ddiv y s) = FP.Core.roundRatio FP.Core.b64 false c' d (q' - r) := by
    rw [FP.Core.val64_ddiv, e3, e2]
    show (if d = 0 then _ else _) = _
    rw [if_neg hd]; rfl
  have hm := rr_mono FP.Core.good_b64 (A := c) (A' := c') (B := d) (e := q - r) (e' := q' - r) (e0 := -2100) (by omega) (by rw [FP.Core.qmin_b64]; decide) (by omega) (by omega) (by
    unfold FP.Core.inUnits
    rw [show (q - r - -2100).toNat = (q + 1074).toNat + (1026 - r).toNat by omega, show (q' - r - -2100).toNat = (q' + 1074).toNat + (1026 - r).toNat by omega, Nat.pow_add, Nat.pow_add, ← Nat.mul_assoc, ← Nat.mul_assoc, ← z1, ← z3]
    exact Nat.mul_le_mul_right _ hz) false
  rw [← v1, ← v3] at hm
  have p1 := div_le hs h0 (show x.toNat ≤ 9218868437227405312 by unfold Ps at hx; omega)
  have p3 := div_le hs h0 (show y.toNat ≤ 9218868437227405312 by unfold Ps at hy; omega)
  rw [show FP.Core.zmag FP.Core.b64 (FP.Core.val64 (FP.Core.ddiv x s)) = zm (FP.ddiv x s) from rfl, show FP.Core.zmag FP.Core.b64 (FP.Core.val64 (FP.Core.ddiv y s)) = zm (FP.ddiv y s) from rfl, zm_all p1, zm_all p3, un_le] at hm
  exact hm
theorem fdiv_mono {x y s : UInt32} (hs : s.toNat < 2139095040) (h0 : s.toNat ≠ 0) (hx : x.toNat < 2139095040) (hy : y.toNat < 2139095040) (h : x.toNat ≤ y.toNat) : (FP.fdiv x s).toNat ≤ (FP.fdiv y s).toNat := by
  obtain ⟨d, r, e2⟩ := fin4 hs
  have hd := nz4 hs h0 e2
  obtain ⟨c, q, e1⟩ := fin4 hx
  obtain ⟨c', q', e3⟩ := fin4 hy
  have zf : ∀ {w : UInt32} {c : Nat} {q : Int}, FP.Core.val32 w = .fin false c q → FP.Core.zmag FP.Core.b32 (FP.Core.val32 w) = c * 2 ^ (q + 149).toNat ∧ -149 ≤ q := by
    intro w c q e
    have hf := FP.Core.val32_fits w
    rw [e] at hf ⊢
    have h2 : FP.Core.b32.qmin ≤ q := hf.2.1
    rw [FP.Core.qmin_b32] at h2
    refine ⟨?_, h2⟩
    show FP.Core.inUnits c q FP.Core.b32.qmin = _
    rw [FP.Core.qmin_b32]
    unfold FP.Core.inUnits
    rw [show q - -149 = q + 149 by omega]
  obtain ⟨z1, g1⟩ := zf e1
  obtain ⟨z3, g3⟩ := zf e3
  have hr : r ≤ 104 := by
    have := FP.Core.val32_fits s
    rw [e2] at this
    have h9 := this.2.2.1
    rw [show FP.Core.b32.qmax = 104 from by decide] at h9
    exact h9
  have zb : ∀ {w : UInt32}, w.toNat ≤ 2139095040 → FP.Core.zmag FP.Core.b32 (FP.Core.val32 w) = un 23 w.toNat := by
    intro w hw
    rw [FP.Core.zmag_bits32 ((FP.Core.notNaN_iff32 w).mp (nan4_le hw)), Nat.mod_eq_of_lt (by omega), un32]
  have hz : FP.Core.zmag FP.Core.b32 (FP.Core.val32 x) ≤ FP.Core.zmag FP.Core.b32 (FP.Core.val32 y) := by
    rw [zb (by omega), zb (by omega), un4_le]; exact h
  have v1 : FP.Core.val32 (FP.Core.fdiv x s) = FP.Core.roundRatio FP.Core.b32 false c d (q - r) := by
    rw [FP.Core.val32_fdiv, e1, e2]
    show (if d = 0 then _ else _) = _
    rw [if_neg hd]; rfl
  have v3 : FP.Core.val32 (FP.Core.fdiv y s) = FP.Core.roundRatio FP.Core.b32 false c' d (q' - r) := by
    rw [FP.Core.val32_fdiv, e3, e2]
    show (if d = 0 then _ else _) = _
    rw [if_neg hd]; rfl
  have hm := rr_mono FP.Core.good_b32 (A := c) (A' := c') (B := d) (e := q - r) (e' := q' - r) (e0 := -300) (by omega) (by rw [FP.Core.qmin_b32]; decide) (by omega) (by omega) (by
    unfold FP.Core.inUnits
    rw [show (q - r - -300).toNat = (q + 149).toNat + (151 - r).toNat by omega, show (q' - r - -300).toNat = (q' + 149).toNat + (151 - r).toNat by omega, Nat.pow_add, Nat.pow_add, ← Nat.mul_assoc, ← Nat.mul_assoc, ← z1, ← z3]
    exact Nat.mul_le_mul_right _ hz) false
  rw [← v1, ← v3] at hm
  have p1 := fdiv_le hs h0 (show x.toNat ≤ 2139095040 by omega)
  have p3 := fdiv_le hs h0 (show y.toNat ≤ 2139095040 by omega)
  rw [show FP.Core.zmag FP.Core.b32 (FP.Core.val32 (FP.Core.fdiv x s)) = un 23 (FP.fdiv x s).toNat from zb p1, show FP.Core.zmag FP.Core.b32 (FP.Core.val32 (FP.Core.fdiv y s)) = un 23 (FP.fdiv y s).toNat from zb p3, un4_le] at hm
  exact hm
theorem rnd_mono {one N N' : Nat} (h1 : 0 < one) (h : N ≤ N') (neg : Bool) (way : Nat) : rnd one N neg way ≤ rnd one N' neg way := by
  have hd : N / one ≤ N' / one := Nat.div_le_div_right h
  unfold rnd
  rcases Nat.lt_or_ge (N / one) (N' / one) with hl | hg
  · split <;> split <;> omega
  · have he : N / one = N' / one := by omega
    have hm : N % one ≤ N' % one := by
      have a := Nat.div_add_mod N one
      have b := Nat.div_add_mod N' one
      rw [he] at a
      omega
    rw [he]
    generalize N' / one = d at *
    generalize N % one = m at *
    generalize N' % one = m' at *
    split
    · rename_i c1
      rw [if_pos]
      · exact Nat.le_refl _
      · rcases c1 with ⟨a, b, c⟩ | ⟨a, b, c⟩ | ⟨a, b⟩
        · exact Or.inl ⟨a, b, by omega⟩
        · exact Or.inr (Or.inl ⟨a, b, by omega⟩)
        · refine Or.inr (Or.inr ⟨a, ?_⟩)
          rcases b with b | ⟨b, b2⟩
          · left; omega
          · rcases Nat.lt_or_ge one (2 * m') with g | g
            · exact Or.inl g
            · exact Or.inr ⟨by omega, b2⟩
    · omega
