/-! SIMULATION: a point comes to a place within the walls -/
theorem inf4_iff (y : Int32) : mX7_isInfinite4 y = 0 ↔ sz4 y ≠ 2139095040 := by
  unfold mX7_isInfinite4
  rw [show mX7_size4 y = nI (sz4 y) from and_size4 y, show (2139095040 : Int32) = nI 2139095040 from rfl]
  have := sz4_lt y
  by_cases h : sz4 y = 2139095040
  · rw [h, if_pos rfl]; exact ⟨fun q => absurd q (by decide), fun q => absurd rfl q⟩
  · rw [if_neg (fun q => h ((nI_eq (by omega) (by decide)).mp q))]; exact ⟨fun _ => h, fun _ => rfl⟩
theorem wd_inf {y : Int32} (h : sz4 y ≤ 2139095040) : mX1_isInfinite (mX3_widened y) = 0 ↔ mX7_isInfinite4 y = 0 := by
  rw [isInf_iff, inf4_iff, sz_wide h]
  by_cases hy : sz4 y = 2139095040
  · rw [hy, Wd_inf]; exact ⟨fun q => absurd rfl q, fun q => absurd rfl q⟩
  · have := (Wd_fin (m := sz4 y) (by omega)).1
    exact ⟨fun _ => hy, fun _ => by omega⟩
theorem wd_inj {a b : Int32} (ha : sz4 a ≤ 2139095040) (hb : sz4 b ≤ 2139095040) : mX3_widened a = mX3_widened b ↔ a = b := by
  refine ⟨fun e => ?_, fun e => by rw [e]⟩
  have h1 := (ky_wide ha hb).mp (by rw [e]; exact Int.le_refl _)
  have h2 := (ky_wide hb ha).mp (by rw [e]; exact Int.le_refl _)
  exact ky4_inj (by omega)
theorem wd_cmp {a b : Int32} (ha : sz4 a ≤ 2139095040) (hb : sz4 b ≤ 2139095040) : lg_cmp (mX3_widened a) (mX3_widened b) = 0 ↔ a = b := by
  rw [lg_cmp_eq, wd_inj ha hb]
theorem sel4' {a b : Int32} (ha : sz4 a ≤ 2139095040) (hb : sz4 b ≤ 2139095040) : sz4 (mX7_lesser4 a b) ≤ 2139095040 ∧ sz4 (mX7_greater4 a b) ≤ 2139095040 := by
  rw [mlesser4_ky, mgreater4_ky]
  constructor <;> split <;> assumption
theorem sel8' {a b : Int64} (ha : sz a ≤ 9218868437227405312) (hb : sz b ≤ 9218868437227405312) : sz (mX7_lesser a b) ≤ 9218868437227405312 ∧ sz (mX7_greater a b) ≤ 9218868437227405312 := by
  rw [mlesser_ky, mgreater_ky]
  constructor <;> split <;> assumption
theorem walled_sim {u : TS} {v : MS} (hR : RR u v) {x : Int64} (hx : sz x ≤ 9218868437227405312) : mX0_walled u.2.2.2.1 x = mX7_walled v x ∧ sz (mX7_walled v x) ≤ 9218868437227405312 := by
  obtain ⟨a1, a2, a3, a4, a5, a6, a7, a8, a9, a10, a11, a12⟩ := hR.2.2.2.1
  unfold mX0_walled mX7_walled
  rw [a1, a2, lesser_eq, greater_eq]
  exact ⟨rfl, (sel8' (sel8' hx a8).1 a7).2⟩
theorem railed_sim {u : TS} {v : MS} (hR : RR u v) {y : Int32} (hy : sz4 y ≤ 2139095040) : mX0_walled u.2.2.2.2.1 (mX3_widened y) = mX3_widened (mX7_railed v y) ∧ sz4 (mX7_railed v y) ≤ 2139095040 := by
  obtain ⟨a1, a2, a3, a4, a5, a6, a7, a8, a9, a10, a11, a12⟩ := hR.2.2.2.1
  unfold mX0_walled mX7_railed
  rw [a4, a5, lesser_wd hy a11, greater_wd (sel4' hy a11).1 a10]
  exact ⟨rfl, (sel4' (sel4' hy a11).1 a10).2⟩
theorem sim_comes {u : TS} {v : MS} (hR : RR u v) {k : Int32} (hk : vp_in k 8) {x : Int64} {y : Int32} (hx : sz x ≤ 9218868437227405312) (hy : sz4 y ≤ 2139095040) : (mX6_putWalled u k x (mX3_widened y)).1 = (mX7_comes v k x y).1 ∧ RR (mX6_putWalled u k x (mX3_widened y)).2 (mX7_comes v k x y).2 := by
  obtain ⟨w1, w2⟩ := walled_sim hR hx
  obtain ⟨r1, r2⟩ := railed_sim hR hy
  have hm : (mX7_keeps v k).2.2.2.2.2.2.2.2.2.2.2.2.2.2.2.2 = v.2.2.2.2.2.2.2.2.2.2.2.2.2.2.2.2 := by
    obtain ⟨tP, tX, tY, trl, e, hT⟩ := keep_sim hR hk
    rw [e]
  have hm0 := hR.1.2.2
  unfold mX6_putWalled mX7_comes
  rw [w1, r1]
  generalize mX7_walled v x = X at *
  generalize mX7_railed v y = Y at *
  by_cases c1 : mX7_isInfinite X = 0
  · rw [if_pos (show mX1_isInfinite X = 0 from c1), if_pos c1]
    by_cases c2 : mX7_isInfinite4 Y = 0
    · rw [if_pos ((wd_inf r2).mpr c2), if_pos c2]
      have hX : sz X < 9218868437227405312 := by have := (isInf_iff X).mp c1; omega
      have hY : sz4 Y < 2139095040 := by have := (inf4_iff Y).mp c2; omega
      by_cases c3 : lg_cmp X x = 0
      · rw [if_pos c3, if_pos c3]
        by_cases c4 : Y = y
        · rw [if_pos ((wd_cmp r2 hy).mpr c4), if_pos c4]
          exact sim_put hR hk hX hY (e1 := u.2.2.1) (by rw [hm, hm0]; exact (Int32.add_zero _).symm)
        · rw [if_neg (fun q => c4 ((wd_cmp r2 hy).mp q)), if_neg c4]
          exact sim_put hR hk hX hY (e1 := u.2.2.1 + 1) (by rw [hm, hm0]; rfl)
      · rw [if_neg c3, if_neg c3]
        by_cases c4 : Y = y
        · rw [if_pos ((wd_cmp r2 hy).mpr c4), if_pos c4]
          exact sim_put hR hk hX hY (e1 := u.2.2.1 + 1) (by rw [hm, hm0]; rfl)
        · rw [if_neg (fun q => c4 ((wd_cmp r2 hy).mp q)), if_neg c4]
          exact sim_put hR hk hX hY (e1 := u.2.2.1 + 1 + 1) (by rw [hm, hm0, Int32.add_assoc])
    · rw [if_neg (fun q => c2 ((wd_inf r2).mp q)), if_neg c2]
      exact sim_refuse hR 5
  · rw [if_neg (show ¬ mX1_isInfinite X = 0 from c1), if_neg c1]
    exact sim_refuse hR 5
theorem sim_place {u : TS} {v : MS} (hR : RR u v) (k : Int32) (x : Int64) (y : Int32) : (mX6_place u k x y).1 = (mX7_place v k x y).1 ∧ RR (mX6_place u k x y).2 (mX7_place v k x y).2 := by
  unfold mX6_place mX7_place
  rw [← isP_eq]
  by_cases c0 : mX6_isPoint k = 0
  · rw [if_pos c0, if_pos c0]; exact sim_refuse hR 1
  · rw [if_neg c0, if_neg c0]
    by_cases c1 : mX7_isNone x = 0
    · rw [if_pos (show mX1_isNone x = 0 from c1), if_pos c1]
      by_cases c2 : mX7_isNone4 y = 0
      · rw [if_pos ((none_wide y).mpr c2), if_pos c2]
        have hy := (none4_iff y).mp c2
        by_cases c3 : mX7_isInfinite x = 0
        · rw [if_pos (show mX1_isInfinite x = 0 from c3), if_pos c3]
          by_cases c4 : mX7_isInfinite4 y = 0
          · rw [if_pos ((wd_inf hy).mpr c4), if_pos c4]
            exact sim_comes hR (pt_in c0) ((isNone_iff x).mp c1) hy
          · rw [if_neg (fun q => c4 ((wd_inf hy).mp q)), if_neg c4]; exact sim_refuse hR 3
        · rw [if_neg (show ¬ mX1_isInfinite x = 0 from c3), if_neg c3]; exact sim_refuse hR 3
      · rw [if_neg (fun q => c2 ((none_wide y).mp q)), if_neg c2]; exact sim_refuse hR 2
    · rw [if_neg (show ¬ mX1_isNone x = 0 from c1), if_neg c1]; exact sim_refuse hR 2
theorem add_nn {a b : Int64} (ha : sz a < 9218868437227405312) (hb : sz b ≤ 9218868437227405312) : FP.dIsNaN (FP.dadd a.toUInt64 b.toUInt64) = false := by
  have h1 : FP.Core.DFin a.toUInt64 := by rw [FP.Core.fin_bits]; exact ha
  exact FP.Core.dadd_out' h1 (nan_of hb)
theorem add4_nn {a b : Int32} (ha : sz4 a < 2139095040) (hb : sz4 b ≤ 2139095040) : FP.fIsNaN (FP.fadd a.toUInt32 b.toUInt32) = false := by
  have h1 : FP.Core.FFin a.toUInt32 := by rw [FP.Core.fin_bits32]; exact ha
  exact FP.Core.fadd_out' h1 (nan4_of hb)
theorem sz_of_nan {d : UInt64} (h : FP.dIsNaN d = false) : sz d.toInt64 ≤ 9218868437227405312 := (isnan_iff d).mp h
theorem sz4_of_nan {d : UInt32} (h : FP.fIsNaN d = false) : sz4 d.toInt32 ≤ 2139095040 := (isnan4_iff d).mp h
theorem sim_move {u : TS} {v : MS} (hR : RR u v) (k : Int32) (x : Int64) (y : Int32) : (mX6_move u k x y).1 = (mX7_move v k x y).1 ∧ RR (mX6_move u k x y).2 (mX7_move v k x y).2 := by
  unfold mX6_move mX7_move
  rw [← isP_eq]
  by_cases c0 : mX6_isPoint k = 0
  · rw [if_pos c0, if_pos c0]; exact sim_refuse hR 1
  · rw [if_neg c0, if_neg c0]
    by_cases c1 : mX7_isNone x = 0
    · rw [if_pos (show mX1_isNone x = 0 from c1), if_pos c1]
      by_cases c2 : mX7_isNone4 y = 0
      · rw [if_pos ((none_wide y).mpr c2), if_pos c2]
        have hx := (isNone_iff x).mp c1
        have hy := (none4_iff y).mp c2
        obtain ⟨x1, x2⟩ := hR.2.1 _ (in8 (pt_in c0))
        obtain ⟨y1, y2⟩ := hR.2.2.1 _ (in8 (pt_in c0))
        have n1 := add_nn x2 hx
        have n2 := add4_nn y2 hy
        rw [x1, y1, sum_w_eq (by omega) hx n1, sum_h_eq (by omega) hy n2]
        rw [show mX7_bits (FP.dadd (mX7_of (v.1 k.toNatClampNeg)) (mX7_of x)) = (FP.dadd (v.1 k.toNatClampNeg).toUInt64 x.toUInt64).toInt64 from bits_eq n1]
        rw [show mX7_bits4 (FP.fadd (mX7_of4 (v.2.1 k.toNatClampNeg)) (mX7_of4 y)) = (FP.fadd (v.2.1 k.toNatClampNeg).toUInt32 y.toUInt32).toInt32 from bits4_eq n2]
        exact sim_comes hR (pt_in c0) (sz_of_nan n1) (sz4_of_nan n2)
      · rw [if_neg (fun q => c2 ((none_wide y).mp q)), if_neg c2]; exact sim_refuse hR 2
    · rw [if_neg (show ¬ mX1_isNone x = 0 from c1), if_neg c1]; exact sim_refuse hR 2
