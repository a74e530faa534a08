/-! SIMULATION of walls, rails and steps -/
theorem walled_fin {l r x : Int64} (hl : sz l ≤ 9218868437227405312) (hr : sz r ≤ 9218868437227405312) (hx : sz x < 9218868437227405312) (hb : FP.Core.dkey l.toUInt64 < FP.Core.dkey r.toUInt64) : sz (mX7_greater (mX7_lesser x r) l) < 9218868437227405312 := by
  rw [key_sz, key_sz] at hb
  have hk : ∀ x : Int64, ky x = if x.toUInt64.toNat < 2 ^ 63 then (sz x : Int) else -1 - (sz x : Int) := fun x => rfl
  have e1 := hk x
  have e2 := hk l
  have e3 := hk r
  rw [mlesser_ky]
  by_cases c : ky x ≤ ky r
  · rw [if_pos c, mgreater_ky]
    by_cases d : ky l ≤ ky x
    · rw [if_pos d]; exact hx
    · rw [if_neg d]
      repeat' split at hb
      all_goals repeat' split at e1
      all_goals repeat' split at e2
      all_goals repeat' split at e3
      all_goals omega
  · rw [if_neg c, mgreater_ky]
    by_cases d : ky l ≤ ky r
    · rw [if_pos d]
      repeat' split at hb
      all_goals repeat' split at e1
      all_goals repeat' split at e2
      all_goals repeat' split at e3
      all_goals omega
    · rw [if_neg d]
      repeat' split at hb
      all_goals repeat' split at e1
      all_goals repeat' split at e2
      all_goals repeat' split at e3
      all_goals omega
theorem walls_L_sim {u0 : AS} {v0 : MS} {b0 b1 a0 a1 l r : Int64} (hl : sz l ≤ 9218868437227405312) (hr : sz r ≤ 9218868437227405312) (hb : FP.Core.dkey l.toUInt64 < FP.Core.dkey r.toUInt64) : ∀ (n : Nat) (q i : Int32) (A : AS) (V : MS), LU 8 n i → A.1 = l → A.2.1 = r → V.2.2.1 = l → V.2.2.2.1 = r → RX A.2.2.2 V.1 → ∃ f xs c, mX0_wallAll_L u0 b0 b1 n q i A = (q + c, (A.1, A.2.1, A.2.2.1, f)) ∧ mX7_walls_L v0 a0 a1 n i V = mX7_does (xs, V.2.1, V.2.2.1, V.2.2.2.1, V.2.2.2.2.1, V.2.2.2.2.2.1, V.2.2.2.2.2.2.1, V.2.2.2.2.2.2.2.1, V.2.2.2.2.2.2.2.2.1, V.2.2.2.2.2.2.2.2.2.1, V.2.2.2.2.2.2.2.2.2.2.1, V.2.2.2.2.2.2.2.2.2.2.2.1, V.2.2.2.2.2.2.2.2.2.2.2.2.1, 0, V.2.2.2.2.2.2.2.2.2.2.2.2.2.2.1, V.2.2.2.2.2.2.2.2.2.2.2.2.2.2.2.1, V.2.2.2.2.2.2.2.2.2.2.2.2.2.2.2.2 + c) ∧ RX f xs := by
  intro n
  induction n with
  | zero => intro q i A V hm; exact hm.z.elim
  | succ n ih =>
    intro q i A V hm h1 h2 h3 h4 hX
    rw [mX0_wallAll_L, mX7_walls_L]
    by_cases h8 : (8 : Int32) ≤ i
    · rw [if_pos h8, if_pos h8]
      refine ⟨A.2.2.2, V.1, 0, ?_, ?_, hX⟩
      · rw [Int32.add_zero]
      · rw [Int32.add_zero]
    · rw [if_neg h8, if_neg h8]
      have hin := LU.vin (N := 8) hm (B := 8) (by decide) h8 (by decide)
      have hup := LU.up (B := 8) (by decide) hm h8
      obtain ⟨e1, e2⟩ := hX _ (in8 hin)
      have hw : mX0_walled A (V.1 i.toNatClampNeg) = mX7_walled V (V.1 i.toNatClampNeg) := by
        unfold mX0_walled mX7_walled
        rw [h1, h2, h3, h4, lesser_eq, greater_eq]
      have hf : sz (mX7_walled V (V.1 i.toNatClampNeg)) < 9218868437227405312 := by
        unfold mX7_walled
        rw [h3, h4]
        exact walled_fin hl hr e2 hb
      rw [e1, hw]
      generalize mX7_walled V (V.1 i.toNatClampNeg) = X at hf ⊢
      by_cases c : lg_cmp X (V.1 i.toNatClampNeg) = 0
      · rw [if_pos c, if_pos c]
        exact ih q (i + 1) _ (_, _, _, _, _, _, _, _, _, _, _, _, _, _, _, _, _) hup h1 h2 h3 h4 (hX.put i.toNatClampNeg hf)
      · rw [if_neg c, if_neg c]
        obtain ⟨f, xs, c', g1, g2, g3⟩ := ih (q + 1) (i + 1) (A.1, A.2.1, A.2.2.1, vp_updL A.2.2.2 i.toNatClampNeg X) (vp_updL V.1 i.toNatClampNeg X, V.2.1, V.2.2.1, V.2.2.2.1, V.2.2.2.2.1, V.2.2.2.2.2.1, V.2.2.2.2.2.2.1, V.2.2.2.2.2.2.2.1, V.2.2.2.2.2.2.2.2.1, V.2.2.2.2.2.2.2.2.2.1, V.2.2.2.2.2.2.2.2.2.2.1, V.2.2.2.2.2.2.2.2.2.2.2.1, V.2.2.2.2.2.2.2.2.2.2.2.2.1, V.2.2.2.2.2.2.2.2.2.2.2.2.2.1, V.2.2.2.2.2.2.2.2.2.2.2.2.2.2.1, V.2.2.2.2.2.2.2.2.2.2.2.2.2.2.2.1, V.2.2.2.2.2.2.2.2.2.2.2.2.2.2.2.2 + 1) hup h1 h2 h3 h4 (hX.put i.toNatClampNeg hf)
        refine ⟨f, xs, 1 + c', ?_, ?_, g3⟩
        · rw [g1, Int32.add_assoc]
        · rw [g2, Int32.add_assoc]
theorem RT.clear {T : RS} {tP : Nat → Int32} {tX : Nat → Int64} {tY : Nat → Int32} {trl : Int32} (h : RT T tP tX tY trl) : RT (mX4_clear T) tP tX tY 0 := by
  obtain ⟨n, p, h1, h2, h3, h4, h5, h6, h7⟩ := h
  exact ⟨0, p, by omega, h2, rfl, h4, rfl, h6, fun j hj => absurd hj (by omega)⟩
theorem sim_walls {u : TS} {v : MS} (hR : RR u v) (l r : Int64) : (mX6_walls u l r).1 = (mX7_walls v l r).1 ∧ RR (mX6_walls u l r).2 (mX7_walls v l r).2 := by
  unfold mX6_walls mX6_fence_w mX7_walls
  by_cases c1 : mX7_isNone l = 0
  · rw [if_pos (show mX1_isNone l = 0 from c1), if_pos c1]
    by_cases c2 : mX7_isNone r = 0
    · rw [if_pos (show mX1_isNone r = 0 from c2), if_pos c2]
      have hl := (isNone_iff l).mp c1
      have hr := (isNone_iff r).mp c2
      by_cases c3 : mX7_isBelow l r = 0
      · rw [if_neg (fun q => (below_w hl hr .g).mp q c3), if_pos c3]; exact sim_refuse hR 4
      · rw [if_pos ((below_w hl hr .g).mpr c3), if_neg c3]
        have hb : FP.Core.dkey l.toUInt64 < FP.Core.dkey r.toUInt64 := Decidable.byContradiction (fun q => c3 ((isBelow_iff l r).mpr q))
        obtain ⟨a1, a2, a3, a4, a5, a6, a7, a8, a9, a10, a11, a12⟩ := hR.2.2.2.1
        unfold mX0_wallAll
        obtain ⟨f, xs, c, g1, g2, g3⟩ := walls_L_sim (u0 := u.2.2.2.1) (v0 := v) (b0 := l) (b1 := r) (a0 := l) (a1 := r) hl hr hb 9 0 0 (l, r, u.2.2.2.1.2.2.1, u.2.2.2.1.2.2.2) (v.1, v.2.1, l, r, v.2.2.2.2.1, v.2.2.2.2.2.1, v.2.2.2.2.2.2.1, v.2.2.2.2.2.2.2.1, v.2.2.2.2.2.2.2.2.1, v.2.2.2.2.2.2.2.2.2.1, v.2.2.2.2.2.2.2.2.2.2.1, v.2.2.2.2.2.2.2.2.2.2.2.1, v.2.2.2.2.2.2.2.2.2.2.2.2.1, v.2.2.2.2.2.2.2.2.2.2.2.2.2.1, v.2.2.2.2.2.2.2.2.2.2.2.2.2.2.1, v.2.2.2.2.2.2.2.2.2.2.2.2.2.2.2.1, v.2.2.2.2.2.2.2.2.2.2.2.2.2.2.2.2) (by unfold LU; decide) rfl rfl rfl rfl hR.2.1
        rw [g1, g2, Int32.zero_add]
        exact sim_finish ⟨⟨hR.1.1, hR.1.2.1, congrArg (· + c) hR.1.2.2⟩, g3, hR.2.2.1, ⟨rfl, rfl, a3, a4, a5, a6, hl, hr, a9, a10, a11, a12⟩, hR.2.2.2.2.1, hR.2.2.2.2.2.clear⟩
    · rw [if_neg (show ¬ mX1_isNone r = 0 from c2), if_neg c2]; exact sim_refuse hR 2
  · rw [if_neg (show ¬ mX1_isNone l = 0 from c1), if_neg c1]; exact sim_refuse hR 2
/-- the key of a y -/
def k4 (y : Int32) : Int := if y.toUInt32.toNat < 2 ^ 31 then (sz4 y : Int) else -(sz4 y : Int)
theorem isBelow4_iff (a b : Int32) : mX7_isBelow4 a b = 0 ↔ ¬ (k4 a < k4 b) := by
  have c1 : mX7_order4 b ≤ mX7_order4 a ↔ ky4 b ≤ ky4 a := by rw [Int32.le_iff_toInt_le, order4_ky, order4_ky]
  have c2 : ∀ x : Int32, mX7_size4 x = 0 ↔ sz4 x = 0 := fun x => by
    have := sz4_lt x
    rw [show mX7_size4 x = nI (sz4 x) from and_size4 x, show (0 : Int32) = nI 0 from rfl, nI_eq (by omega) (by decide)]
  have one : ¬ (1 : Int32) = 0 := by decide
  unfold k4
  unfold mX7_isBelow4
  have hk : ∀ x : Int32, ky4 x = if x.toUInt32.toNat < 2 ^ 31 then (sz4 x : Int) else -1 - (sz4 x : Int) := fun x => rfl
  by_cases h1 : ky4 b ≤ ky4 a
  · rw [if_pos (c1.mpr h1)]
    rw [hk, hk] at h1
    refine ⟨fun _ => ?_, fun _ => rfl⟩
    repeat' split at h1
    all_goals repeat' split
    all_goals omega
  · rw [if_neg (fun q => h1 (c1.mp q))]
    rw [hk, hk] at h1
    by_cases h2 : sz4 a = 0
    · rw [if_pos ((c2 a).mpr h2)]
      by_cases h3 : sz4 b = 0
      · rw [if_pos ((c2 b).mpr h3)]
        refine ⟨fun _ => ?_, fun _ => rfl⟩
        split <;> split <;> omega
      · rw [if_neg (fun q => h3 ((c2 b).mp q))]
        refine ⟨fun q => absurd q one, fun q => absurd ?_ q⟩
        repeat' split at h1
        all_goals repeat' split
        all_goals omega
    · rw [if_neg (fun q => h2 ((c2 a).mp q))]
      refine ⟨fun q => absurd q one, fun q => absurd ?_ q⟩
      repeat' split at h1
      all_goals repeat' split
      all_goals omega
theorem k4_wide {a b : Int32} (ha : sz4 a ≤ 2139095040) (hb : sz4 b ≤ 2139095040) : FP.Core.dkey (mX3_widened a).toUInt64 < FP.Core.dkey (mX3_widened b).toUInt64 ↔ k4 a < k4 b := by
  rw [key_sz, key_sz, sz_wide ha, sz_wide hb]
  unfold k4
  have l1 := Wd_lt' ha hb
  have l2 := Wd_lt' hb ha
  have z1 := Wd_z ha
  have z2 := Wd_z hb
  by_cases s1 : a.toUInt32.toNat < 2 ^ 31
  · rw [if_pos s1, if_pos ((sg_wide ha).mpr s1)]
    by_cases s2 : b.toUInt32.toNat < 2 ^ 31
    · rw [if_pos s2, if_pos ((sg_wide hb).mpr s2)]; omega
    · rw [if_neg s2, if_neg (fun q => s2 ((sg_wide hb).mp q))]; omega
  · rw [if_neg s1, if_neg (fun q => s1 ((sg_wide ha).mp q))]
    by_cases s2 : b.toUInt32.toNat < 2 ^ 31
    · rw [if_pos s2, if_pos ((sg_wide hb).mpr s2)]; omega
    · rw [if_neg s2, if_neg (fun q => s2 ((sg_wide hb).mp q))]; omega
theorem below_h {a b : Int32} (ha : sz4 a ≤ 2139095040) (hb : sz4 b ≤ 2139095040) (op : CmpOp) : Op.cmpValue (FP.dcmp (mX1_value (mX3_widened a)) (mX1_value (mX3_widened b))) op < 0 ↔ ¬ mX7_isBelow4 a b = 0 := by
  rw [below_w (wd_nn ha) (wd_nn hb), isBelow_iff, isBelow4_iff, k4_wide ha hb]
theorem railed_fin {l r x : Int32} (hl : sz4 l ≤ 2139095040) (hr : sz4 r ≤ 2139095040) (hx : sz4 x < 2139095040) (hb : k4 l < k4 r) : sz4 (mX7_greater4 (mX7_lesser4 x r) l) < 2139095040 := by
  unfold k4 at hb
  have hk : ∀ x : Int32, ky4 x = if x.toUInt32.toNat < 2 ^ 31 then (sz4 x : Int) else -1 - (sz4 x : Int) := fun x => rfl
  have e1 := hk x
  have e2 := hk l
  have e3 := hk r
  rw [mlesser4_ky]
  by_cases c : ky4 x ≤ ky4 r
  · rw [if_pos c, mgreater4_ky]
    by_cases d : ky4 l ≤ ky4 x
    · rw [if_pos d]; exact hx
    · rw [if_neg d]
      repeat' split at hb
      all_goals repeat' split at e1
      all_goals repeat' split at e2
      all_goals repeat' split at e3
      all_goals omega
  · rw [if_neg c, mgreater4_ky]
    by_cases d : ky4 l ≤ ky4 r
    · rw [if_pos d]
      repeat' split at hb
      all_goals repeat' split at e1
      all_goals repeat' split at e2
      all_goals repeat' split at e3
      all_goals omega
    · rw [if_neg d]
      repeat' split at hb
      all_goals repeat' split at e1
      all_goals repeat' split at e2
      all_goals repeat' split at e3
      all_goals omega
theorem rails_L_sim {u0 : AS} {v0 : MS} {b0 b1 : Int64} {a0 a1 l r : Int32} (hl : sz4 l ≤ 2139095040) (hr : sz4 r ≤ 2139095040) (hb : k4 l < k4 r) : ∀ (n : Nat) (q i : Int32) (A : AS) (V : MS), LU 8 n i → A.1 = mX3_widened l → A.2.1 = mX3_widened r → V.2.2.2.2.2.1 = l → V.2.2.2.2.2.2.1 = r → RY A.2.2.2 V.2.1 → ∃ f ys c, mX0_wallAll_L u0 b0 b1 n q i A = (q + c, (A.1, A.2.1, A.2.2.1, f)) ∧ mX7_rails_L v0 a0 a1 n i V = mX7_does (V.1, ys, V.2.2.1, V.2.2.2.1, V.2.2.2.2.1, V.2.2.2.2.2.1, V.2.2.2.2.2.2.1, V.2.2.2.2.2.2.2.1, V.2.2.2.2.2.2.2.2.1, V.2.2.2.2.2.2.2.2.2.1, V.2.2.2.2.2.2.2.2.2.2.1, V.2.2.2.2.2.2.2.2.2.2.2.1, V.2.2.2.2.2.2.2.2.2.2.2.2.1, 0, V.2.2.2.2.2.2.2.2.2.2.2.2.2.2.1, V.2.2.2.2.2.2.2.2.2.2.2.2.2.2.2.1, V.2.2.2.2.2.2.2.2.2.2.2.2.2.2.2.2 + c) ∧ RY f ys := by
  intro n
  induction n with
  | zero => intro q i A V hm; exact hm.z.elim
  | succ n ih =>
    intro q i A V hm h1 h2 h3 h4 hX
    rw [mX0_wallAll_L, mX7_rails_L]
    by_cases h8 : (8 : Int32) ≤ i
    · rw [if_pos h8, if_pos h8]
      refine ⟨A.2.2.2, V.2.1, 0, ?_, ?_, hX⟩
      · rw [Int32.add_zero]
      · rw [Int32.add_zero]
    · rw [if_neg h8, if_neg h8]
      have hin := LU.vin (N := 8) hm (B := 8) (by decide) h8 (by decide)
      have hup := LU.up (B := 8) (by decide) hm h8
      obtain ⟨e1, e2⟩ := hX _ (in8 hin)
      have hw : mX0_walled A (mX3_widened (V.2.1 i.toNatClampNeg)) = mX3_widened (mX7_railed V (V.2.1 i.toNatClampNeg)) := by
        unfold mX0_walled mX7_railed
        rw [h1, h2, h3, h4, lesser_wd (by omega) hr, greater_wd (sel4' (by omega) hr).1 hl]
      have hf : sz4 (mX7_railed V (V.2.1 i.toNatClampNeg)) < 2139095040 := by
        unfold mX7_railed
        rw [h3, h4]
        exact railed_fin hl hr e2 hb
      rw [e1, hw]
      generalize mX7_railed V (V.2.1 i.toNatClampNeg) = X at hf ⊢
      by_cases c : X = V.2.1 i.toNatClampNeg
      · rw [if_pos ((wd_cmp (by omega) (by omega)).mpr c), if_pos c]
        exact ih q (i + 1) _ (_, _, _, _, _, _, _, _, _, _, _, _, _, _, _, _, _) hup h1 h2 h3 h4 (hX.put i.toNatClampNeg hf)
      · rw [if_neg (fun q => c ((wd_cmp (by omega) (by omega)).mp q)), if_neg c]
        obtain ⟨f, xs, c', g1, g2, g3⟩ := ih (q + 1) (i + 1) (A.1, A.2.1, A.2.2.1, vp_updL A.2.2.2 i.toNatClampNeg (mX3_widened X)) (V.1, upd V.2.1 i.toNatClampNeg X, V.2.2.1, V.2.2.2.1, V.2.2.2.2.1, V.2.2.2.2.2.1, V.2.2.2.2.2.2.1, V.2.2.2.2.2.2.2.1, V.2.2.2.2.2.2.2.2.1, V.2.2.2.2.2.2.2.2.2.1, V.2.2.2.2.2.2.2.2.2.2.1, V.2.2.2.2.2.2.2.2.2.2.2.1, V.2.2.2.2.2.2.2.2.2.2.2.2.1, V.2.2.2.2.2.2.2.2.2.2.2.2.2.1, V.2.2.2.2.2.2.2.2.2.2.2.2.2.2.1, V.2.2.2.2.2.2.2.2.2.2.2.2.2.2.2.1, V.2.2.2.2.2.2.2.2.2.2.2.2.2.2.2.2 + 1) hup h1 h2 h3 h4 (hX.put i.toNatClampNeg hf)
        refine ⟨f, xs, 1 + c', ?_, ?_, g3⟩
        · rw [g1, Int32.add_assoc]
        · rw [g2, Int32.add_assoc]
theorem sim_rails {u : TS} {v : MS} (hR : RR u v) (l r : Int32) : (mX6_rails u l r).1 = (mX7_rails v l r).1 ∧ RR (mX6_rails u l r).2 (mX7_rails v l r).2 := by
  unfold mX6_rails mX6_fence_h mX7_rails
  by_cases c1 : mX7_isNone4 l = 0
  · rw [if_pos ((none_wide l).mpr c1), if_pos c1]
    by_cases c2 : mX7_isNone4 r = 0
    · rw [if_pos ((none_wide r).mpr c2), if_pos c2]
      have hl := (none4_iff l).mp c1
      have hr := (none4_iff r).mp c2
      by_cases c3 : mX7_isBelow4 l r = 0
      · rw [if_neg (fun q => (below_h hl hr .g).mp q c3), if_pos c3]; exact sim_refuse hR 4
      · rw [if_pos ((below_h hl hr .g).mpr c3), if_neg c3]
        have hb : k4 l < k4 r := Decidable.byContradiction (fun q => c3 ((isBelow4_iff l r).mpr q))
        obtain ⟨a1, a2, a3, a4, a5, a6, a7, a8, a9, a10, a11, a12⟩ := hR.2.2.2.1
        unfold mX0_wallAll
        obtain ⟨f, xs, c, g1, g2, g3⟩ := rails_L_sim (u0 := u.2.2.2.2.1) (v0 := v) (b0 := mX3_widened l) (b1 := mX3_widened r) (a0 := l) (a1 := r) hl hr hb 9 0 0 (mX3_widened l, mX3_widened r, u.2.2.2.2.1.2.2.1, u.2.2.2.2.1.2.2.2) (v.1, v.2.1, v.2.2.1, v.2.2.2.1, v.2.2.2.2.1, l, r, v.2.2.2.2.2.2.2.1, v.2.2.2.2.2.2.2.2.1, v.2.2.2.2.2.2.2.2.2.1, v.2.2.2.2.2.2.2.2.2.2.1, v.2.2.2.2.2.2.2.2.2.2.2.1, v.2.2.2.2.2.2.2.2.2.2.2.2.1, v.2.2.2.2.2.2.2.2.2.2.2.2.2.1, v.2.2.2.2.2.2.2.2.2.2.2.2.2.2.1, v.2.2.2.2.2.2.2.2.2.2.2.2.2.2.2.1, v.2.2.2.2.2.2.2.2.2.2.2.2.2.2.2.2) (by unfold LU; decide) rfl rfl rfl rfl hR.2.2.1
        rw [g1, g2, Int32.zero_add]
        exact sim_finish ⟨⟨hR.1.1, hR.1.2.1, congrArg (· + c) hR.1.2.2⟩, hR.2.1, g3, ⟨a1, a2, a3, rfl, rfl, a6, a7, a8, a9, hl, hr, a12⟩, hR.2.2.2.2.1, hR.2.2.2.2.2.clear⟩
    · rw [if_neg (fun q => c2 ((none_wide r).mp q)), if_neg c2]; exact sim_refuse hR 2
  · rw [if_neg (fun q => c1 ((none_wide l).mp q)), if_neg c1]; exact sim_refuse hR 2
theorem above_iff (a : Int64) : mX1_isAboveZero a = 0 ↔ ¬ (a.toUInt64.toNat < 2 ^ 63 ∧ a.toUInt64.toNat ≠ 0) := by
  have hc : lg_cmp a 0 ≤ 0 ↔ ¬ (a.toUInt64.toNat < 2 ^ 63 ∧ a.toUInt64.toNat ≠ 0) := by
    rw [lg_cmp_le, Int64.le_iff_toInt_le, i64_0]
    have h := un_lt a
    have e : a.toInt = if a.toUInt64.toNat < 2 ^ 63 then (a.toUInt64.toNat : Int) else (a.toUInt64.toNat : Int) - 2 ^ 64 := by
      conv => lhs; rw [lN_un a]
      exact toInt_lN h
    rw [e]
    split <;> omega
  unfold mX1_isAboveZero
  by_cases h : lg_cmp a 0 ≤ 0
  · rw [if_pos h]; exact ⟨fun _ => hc.mp h, fun _ => rfl⟩
  · rw [if_neg h]; exact ⟨fun q => absurd q (by decide), fun q => absurd (hc.mpr q) h⟩
theorem below0_iff (a : Int64) : mX7_isBelow 0 a = 0 ↔ ¬ (a.toUInt64.toNat < 2 ^ 63 ∧ a.toUInt64.toNat ≠ 0) := by
  rw [isBelow_iff, key_sz, key_sz]
  have z : (0 : Int64).toUInt64.toNat = 0 := rfl
  have s0 : sz 0 = 0 := rfl
  rw [if_pos (by rw [z]; decide), s0]
  unfold sz
  have h := un_lt a
  split <;> omega
theorem below40_iff (y : Int32) : mX7_isBelow4 0 y = 0 ↔ ¬ (y.toUInt32.toNat < 2 ^ 31 ∧ y.toUInt32.toNat ≠ 0) := by
  rw [isBelow4_iff]
  have z : (0 : Int32).toUInt32.toNat = 0 := rfl
  have s0 : sz4 0 = 0 := rfl
  unfold k4
  rw [if_pos (by rw [z]; decide), s0]
  unfold sz4
  have h := un4_lt y
  split <;> omega
theorem above_wd {y : Int32} (h : sz4 y ≤ 2139095040) : mX1_isAboveZero (mX3_widened y) = 0 ↔ mX7_isBelow4 0 y = 0 := by
  rw [above_iff, below40_iff, sg_wide h]
  have z := Wd_z h
  rw [← sz_wide h] at z
  unfold sz sz4 at z
  have l := un_lt (mX3_widened y)
  have s := sg_wide h
  omega
theorem sim_steps {u : TS} {v : MS} (hR : RR u v) (x : Int64) (y : Int32) : (mX6_steps u x y).1 = (mX7_steps v x y).1 ∧ RR (mX6_steps u x y).2 (mX7_steps v x y).2 := by
  unfold mX6_steps mX7_steps
  by_cases c1 : mX7_isNone x = 0
  · rw [if_pos (show mX1_isNone x = 0 from c1), if_pos c1]
    by_cases c2 : mX7_isNone4 y = 0
    · rw [if_pos ((none_wide y).mpr c2), if_pos c2]
      have hx := (isNone_iff x).mp c1
      have hy := (none4_iff y).mp c2
      by_cases c3 : mX7_isInfinite x = 0
      · rw [if_pos (show mX1_isInfinite x = 0 from c3), if_pos c3]
        by_cases c4 : mX7_isInfinite4 y = 0
        · rw [if_pos ((wd_inf hy).mpr c4), if_pos c4]
          have hx' := (isInf_iff x).mp c3
          have hy' := (inf4_iff y).mp c4
          by_cases c5 : mX7_isBelow 0 x = 0
          · rw [if_pos ((above_iff x).mpr ((below0_iff x).mp c5)), if_pos c5]; exact sim_refuse hR 4
          · rw [if_neg (fun q => c5 ((below0_iff x).mpr ((above_iff x).mp q))), if_neg c5]
            by_cases c6 : mX7_isBelow4 0 y = 0
            · rw [if_pos ((above_wd hy).mpr c6), if_pos c6]; exact sim_refuse hR 4
            · rw [if_neg (fun q => c6 ((above_wd hy).mp q)), if_neg c6]
              obtain ⟨a1, a2, a3, a4, a5, a6, a7, a8, a9, a10, a11, a12⟩ := hR.2.2.2.1
              have p1 := Decidable.byContradiction (fun q => c5 ((below0_iff x).mpr q))
              have p2 := Decidable.byContradiction (fun q => c6 ((below40_iff y).mpr q))
              have s1 : StepD x := ⟨by unfold Ps; unfold sz at hx hx'; omega, p1.2⟩
              have s2 : StepF y := ⟨by unfold sz4 at hy hy'; omega, p2.2⟩
              exact sim_finish ⟨hR.1, hR.2.1, hR.2.2.1, ⟨a1, a2, rfl, a4, a5, rfl, a7, a8, s1, a10, a11, s2⟩, hR.2.2.2.2.1, hR.2.2.2.2.2⟩
        · rw [if_neg (fun q => c4 ((wd_inf hy).mp q)), if_neg c4]; exact sim_refuse hR 3
      · rw [if_neg (show ¬ mX1_isInfinite x = 0 from c3), if_neg c3]; exact sim_refuse hR 3
    · rw [if_neg (fun q => c2 ((none_wide y).mp q)), if_neg c2]; exact sim_refuse hR 2
  · rw [if_neg (show ¬ mX1_isNone x = 0 from c1), if_neg c1]; exact sim_refuse hR 2
