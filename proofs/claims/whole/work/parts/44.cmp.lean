/-! COMPARING: sizes of differences, values below each other -/
def Az (A : UInt64) : Prop := A.toNat ≤ 9218868437227405312 ∨ A.toNat = 2 ^ 63
def mg (A : UInt64) : Nat := A.toNat % 2 ^ 63
theorem Az.nan {A : UInt64} (h : Az A) : FP.dIsNaN A = false := (isnan_iff A).mpr (by unfold Az at h; omega)
theorem Az.le {A : UInt64} (h : Az A) : mg A ≤ 9218868437227405312 := by unfold Az at h; unfold mg; omega
theorem Az.key {A : UInt64} (h : Az A) : FP.Core.dkey A = (mg A : Int) := by
  have hd : FP.Core.dkey A = if 2 ^ 63 ≤ A.toNat then ((2 ^ 63 : Nat) : Int) - (A.toNat : Int) else (A.toNat : Int) := rfl
  rw [hd]
  unfold Az at h
  unfold mg
  split <;> omega
theorem Az.ofs {A : UInt64} (h : Az A) : mX1_ofSize A = lN (mg A) := by
  rcases h with h | h
  · rw [ofs_all h, tu_lN]
    unfold mg
    rw [Nat.mod_eq_of_lt (by omega)]
  · have : A = 9223372036854775808 := UInt64.toNat_inj.mp (by rw [h]; rfl)
    subst this
    exact ofs_nz
theorem dc_key {A B : UInt64} (hA : FP.dIsNaN A = false) (hB : FP.dIsNaN B = false) (op : CmpOp) : (Op.cmpValue (FP.dcmp A B) op < 0 ↔ FP.Core.dkey A < FP.Core.dkey B) ∧ (0 < Op.cmpValue (FP.dcmp A B) op ↔ FP.Core.dkey B < FP.Core.dkey A) := by
  have h1 : FP.Core.val64 A ≠ .nan := (FP.Core.notNaN_iff A).mp hA
  have h2 : FP.Core.val64 B ≠ .nan := (FP.Core.notNaN_iff B).mp hB
  have hk : FP.dcmp A B = some (compare (FP.Core.dkey A) (FP.Core.dkey B)) := FP.Core.dcmp_key h1 h2
  rw [hk]
  rcases Int.lt_trichotomy (FP.Core.dkey A) (FP.Core.dkey B) with g | g | g
  · rw [(FP.Core.compare_lt_iff _ _).mpr g]
    exact ⟨⟨fun _ => g, fun _ => (by decide : (-1 : Int32) < 0)⟩, ⟨fun q => absurd q (by decide : ¬ (0 : Int32) < -1), fun q => by omega⟩⟩
  · rw [(FP.Core.compare_eq_iff _ _).mpr g]
    exact ⟨⟨fun q => absurd q (by decide : ¬ (0 : Int32) < 0), fun q => by omega⟩, ⟨fun q => absurd q (by decide : ¬ (0 : Int32) < 0), fun q => by omega⟩⟩
  · rw [(FP.Core.compare_gt_iff _ _).mpr g]
    exact ⟨⟨fun q => absurd q (by decide : ¬ (1 : Int32) < 0), fun q => by omega⟩, ⟨fun _ => g, fun _ => (by decide : (0 : Int32) < 1)⟩⟩
theorem i32_nlt (x : Int32) : (0 ≤ x ↔ ¬ x < 0) ∧ (x ≤ 0 ↔ ¬ 0 < x) := by
  rw [Int32.le_iff_toInt_le, Int32.le_iff_toInt_le, Int32.lt_iff_toInt_lt, Int32.lt_iff_toInt_lt]; omega
theorem az_lt {A B : UInt64} (hA : Az A) (hB : Az B) (op : CmpOp) : Op.cmpValue (FP.dcmp A B) op < 0 ↔ mg A < mg B := by
  rw [(dc_key hA.nan hB.nan op).1, hA.key, hB.key]; omega
theorem az_gt {A B : UInt64} (hA : Az A) (hB : Az B) (op : CmpOp) : 0 < Op.cmpValue (FP.dcmp A B) op ↔ mg B < mg A := by
  rw [(dc_key hA.nan hB.nan op).2, hA.key, hB.key]; omega
theorem az_abs {d : UInt64} (h : FP.dIsNaN d = false) : Az (if 0 ≤ Op.cmpValue (FP.dcmp d FP.dconst0) .g then d else FP.dneg d) ∧ mg (if 0 ≤ Op.cmpValue (FP.dcmp d FP.dconst0) .g then d else FP.dneg d) = mg d := by
  have hn := (isnan_iff d).mp h
  have hd := d.toNat_lt
  have hc := (cmp0 h .g).1
  by_cases h0 : d.toNat ≤ 2 ^ 63
  · rw [if_pos (hc.mpr h0)]
    refine ⟨?_, rfl⟩
    unfold Az; omega
  · rw [if_neg (fun q => h0 (hc.mp q))]
    unfold Az mg
    rw [dneg_un, if_neg (by omega)]
    omega
theorem apart_w {u : AS} {a b : Int64} (ha : sz a ≤ 9218868437227405312) (hb : sz b ≤ 9218868437227405312) (hn : FP.dIsNaN (FP.dsub a.toUInt64 b.toUInt64) = false) : Az (mX0_apart_w u a b) ∧ mg (mX0_apart_w u a b) = mg (FP.dsub a.toUInt64 b.toUInt64) := by
  unfold mX0_apart_w
  rw [value_eq ha, value_eq hb]
  exact az_abs hn
theorem apart_h {u : AS} {a b : Int32} (ha : sz4 a ≤ 2139095040) (hb : sz4 b ≤ 2139095040) (hn : FP.fIsNaN (FP.fsub a.toUInt32 b.toUInt32) = false) : Az (mX0_apart_h u (mX3_widened a) (mX3_widened b)) ∧ mg (mX0_apart_h u (mX3_widened a) (mX3_widened b)) = Wd (sz4 (FP.fsub a.toUInt32 b.toUInt32).toInt32) := by
  unfold mX0_apart_h
  rw [d2f_wd ha, d2f_wd hb]
  obtain ⟨h1, h2⟩ := az_abs (d := FP.f2d (FP.fsub a.toUInt32 b.toUInt32)) (by rw [Jvm.FP.f2d_nan]; exact hn)
  refine ⟨h1, h2.trans ?_⟩
  have hS : sz4 (FP.fsub a.toUInt32 b.toUInt32).toInt32 ≤ 2139095040 := (isnan4_iff _).mp hn
  have hf : FP.f2d (FP.fsub a.toUInt32 b.toUInt32) = (mX3_widened (FP.fsub a.toUInt32 b.toUInt32).toInt32).toUInt64 := f2d_wide hS
  rw [hf]
  exact sz_wide hS
/-- the model's bits of a number -/
theorem bits_eq {d : UInt64} (h : FP.dIsNaN d = false) : mX7_bits d = d.toInt64 := by
  unfold mX7_bits mJxe99ae_doubleToLongBits_ccdee mJxe99ae_isNaN_b9ae7
  have : FP.dcmp d d = some .eq := FP.Core.dcmp_self ((FP.Core.notNaN_iff d).mp h)
  rw [this]
  rfl
theorem bits4_eq {d : UInt32} (h : FP.fIsNaN d = false) : mX7_bits4 d = d.toInt32 := by
  unfold mX7_bits4 mJxf58ca_floatToIntBits_5c35a mJxf58ca_isNaN_12338
  have : FP.fcmp d d = some .eq := FP.Core.fcmp_self ((FP.Core.notNaN_iff32 d).mp h)
  rw [this]
  rfl
theorem msize (d : UInt64) : mX7_size d.toInt64 = lN (mg d) := and_size d.toInt64
theorem msize4 (d : UInt32) : mX7_size4 d.toInt32 = nI (sz4 d.toInt32) := and_size4 d.toInt32
/-- which value is below which -/
theorem key_sz {a : Int64} : FP.Core.dkey a.toUInt64 = if a.toUInt64.toNat < 2 ^ 63 then (sz a : Int) else -(sz a : Int) := by
  have h := un_lt a
  have hd : FP.Core.dkey a.toUInt64 = if 2 ^ 63 ≤ a.toUInt64.toNat then ((2 ^ 63 : Nat) : Int) - (a.toUInt64.toNat : Int) else (a.toUInt64.toNat : Int) := rfl
  rw [hd]
  unfold sz
  split <;> split <;> omega
theorem isBelow_iff (a b : Int64) : mX7_isBelow a b = 0 ↔ ¬ (FP.Core.dkey a.toUInt64 < FP.Core.dkey b.toUInt64) := by
  have c1 : 0 ≤ lg_cmp (mX7_order a) (mX7_order b) ↔ ky b ≤ ky a := by rw [lg_cmp_ge, Int64.le_iff_toInt_le, order_ky, order_ky]
  have c2 : ∀ x : Int64, lg_cmp (mX7_size x) (0 : Int64) = 0 ↔ sz x = 0 := fun x => by
    rw [show mX7_size x = lN (sz x) from and_size x, lg_cmp_eq, show (0 : Int64) = lN 0 from rfl, pk_lEQ (sz_lt x) (by decide)]
  have one : ¬ (1 : Int32) = 0 := by decide
  rw [key_sz, key_sz]
  unfold mX7_isBelow
  have hk : ∀ x : Int64, ky x = if x.toUInt64.toNat < 2 ^ 63 then (sz x : Int) else -1 - (sz x : Int) := fun x => rfl
  by_cases h1 : ky b ≤ ky a
  · rw [if_pos (c1.mpr h1)]
    rw [hk, hk] at h1
    refine ⟨fun _ => ?_, fun _ => rfl⟩
    repeat' split at h1
    all_goals repeat' split
    all_goals omega
  · rw [if_neg (fun q => h1 (c1.mp q))]
    rw [hk, hk] at h1
    by_cases h2 : sz a = 0
    · rw [if_pos ((c2 a).mpr h2)]
      by_cases h3 : sz b = 0
      · rw [if_pos ((c2 b).mpr h3)]
        refine ⟨fun _ => ?_, fun _ => rfl⟩
        split <;> split <;> omega
      · rw [if_neg (fun q => h3 ((c2 b).mp q))]
        refine ⟨fun q => absurd q one, fun q => absurd ?_ q⟩
        repeat' split at h1
        all_goals repeat' split
        all_goals omega
    · rw [if_neg (fun q => h2 ((c2 a).mp q))]
      refine ⟨fun q => absurd q one, fun q => absurd ?_ q⟩
      repeat' split at h1
      all_goals repeat' split
      all_goals omega
theorem below_w {a b : Int64} (ha : sz a ≤ 9218868437227405312) (hb : sz b ≤ 9218868437227405312) (op : CmpOp) : Op.cmpValue (FP.dcmp (mX1_value a) (mX1_value b)) op < 0 ↔ ¬ mX7_isBelow a b = 0 := by
  rw [value_eq ha, value_eq hb, (dc_key (nan_of ha) (nan_of hb) op).1, isBelow_iff]
  exact Decidable.not_not.symm
