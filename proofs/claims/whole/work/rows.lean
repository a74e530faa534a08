section
-- ===== PART A: goes FIRST, ahead of the names: the tables' words, and 'selects' of the private methods out of them =====
/-- a private method of a class that the tables say can be made, by its rows of tables_1 -/
def lw_okq (q : MethodName × Nat) : Prop := (q.1.cls ≠ "java/lang/invoke/MethodHandle" ∧ q.1.cls ≠ "java/lang/invoke/VarHandle") ∧ Cond.instantiable q.1.cls q.2 ∈ tables_1 ∧ Cond.privateMethod q.1 ∈ tables_1 ∧ Cond.instanceMethod q.1 ∈ tables_1
theorem lw_p0 : lw_okq (⟨"SnapTable", "refuse", "(I)I"⟩, 7) := ⟨⟨by decide +kernel, by decide +kernel⟩, List.mem_of_getElem? (i := 13) (by decide +kernel), List.mem_of_getElem? (i := 147) (by decide +kernel), List.mem_of_getElem? (i := 148) (by decide +kernel)⟩
theorem lw_p1 : lw_okq (⟨"SnapTable", "putWalled", "(IJJ)I"⟩, 7) := ⟨⟨by decide +kernel, by decide +kernel⟩, List.mem_of_getElem? (i := 13) (by decide +kernel), List.mem_of_getElem? (i := 158) (by decide +kernel), List.mem_of_getElem? (i := 159) (by decide +kernel)⟩
theorem lw_p2 : lw_okq (⟨"SnapTable", "put", "(IJJ)I"⟩, 7) := ⟨⟨by decide +kernel, by decide +kernel⟩, List.mem_of_getElem? (i := 13) (by decide +kernel), List.mem_of_getElem? (i := 175) (by decide +kernel), List.mem_of_getElem? (i := 176) (by decide +kernel)⟩
theorem lw_p3 : lw_okq (⟨"SnapTable", "finish", "()I"⟩, 7) := ⟨⟨by decide +kernel, by decide +kernel⟩, List.mem_of_getElem? (i := 13) (by decide +kernel), List.mem_of_getElem? (i := 183) (by decide +kernel), List.mem_of_getElem? (i := 184) (by decide +kernel)⟩
theorem lw_p4 : lw_okq (⟨"SnapTable", "fence", "(LSnapTable$Axis;JJ)I"⟩, 7) := ⟨⟨by decide +kernel, by decide +kernel⟩, List.mem_of_getElem? (i := 13) (by decide +kernel), List.mem_of_getElem? (i := 191) (by decide +kernel), List.mem_of_getElem? (i := 192) (by decide +kernel)⟩
theorem lw_p5 : lw_okq (⟨"SnapTable", "nearestGuide", "(J)I"⟩, 7) := ⟨⟨by decide +kernel, by decide +kernel⟩, List.mem_of_getElem? (i := 13) (by decide +kernel), List.mem_of_getElem? (i := 304) (by decide +kernel), List.mem_of_getElem? (i := 305) (by decide +kernel)⟩
theorem lw_p6 : lw_okq (⟨"SnapTable", "distance", "(II)D"⟩, 7) := ⟨⟨by decide +kernel, by decide +kernel⟩, List.mem_of_getElem? (i := 13) (by decide +kernel), List.mem_of_getElem? (i := 353) (by decide +kernel), List.mem_of_getElem? (i := 354) (by decide +kernel)⟩
theorem lw_p7 : lw_okq (⟨"SnapTable", "cellAt", "(J)I"⟩, 7) := ⟨⟨by decide +kernel, by decide +kernel⟩, List.mem_of_getElem? (i := 13) (by decide +kernel), List.mem_of_getElem? (i := 362) (by decide +kernel), List.mem_of_getElem? (i := 363) (by decide +kernel)⟩
theorem lw_p8 : lw_okq (⟨"SnapTable", "markAt", "(J)J"⟩, 7) := ⟨⟨by decide +kernel, by decide +kernel⟩, List.mem_of_getElem? (i := 13) (by decide +kernel), List.mem_of_getElem? (i := 371) (by decide +kernel), List.mem_of_getElem? (i := 372) (by decide +kernel)⟩
theorem lw_p9 : lw_okq (⟨"SnapTableModel", "refuses", "(I)I"⟩, 17) := ⟨⟨by decide +kernel, by decide +kernel⟩, List.mem_of_getElem? (i := 418) (by decide +kernel), List.mem_of_getElem? (i := 490) (by decide +kernel), List.mem_of_getElem? (i := 491) (by decide +kernel)⟩
theorem lw_p10 : lw_okq (⟨"SnapTableModel", "comes", "(IJI)I"⟩, 17) := ⟨⟨by decide +kernel, by decide +kernel⟩, List.mem_of_getElem? (i := 418) (by decide +kernel), List.mem_of_getElem? (i := 514) (by decide +kernel), List.mem_of_getElem? (i := 515) (by decide +kernel)⟩
theorem lw_p11 : lw_okq (⟨"SnapTableModel", "walled", "(J)J"⟩, 17) := ⟨⟨by decide +kernel, by decide +kernel⟩, List.mem_of_getElem? (i := 418) (by decide +kernel), List.mem_of_getElem? (i := 518) (by decide +kernel), List.mem_of_getElem? (i := 519) (by decide +kernel)⟩
theorem lw_p12 : lw_okq (⟨"SnapTableModel", "railed", "(I)I"⟩, 17) := ⟨⟨by decide +kernel, by decide +kernel⟩, List.mem_of_getElem? (i := 418) (by decide +kernel), List.mem_of_getElem? (i := 532) (by decide +kernel), List.mem_of_getElem? (i := 533) (by decide +kernel)⟩
theorem lw_p13 : lw_okq (⟨"SnapTableModel", "keeps", "(I)V"⟩, 17) := ⟨⟨by decide +kernel, by decide +kernel⟩, List.mem_of_getElem? (i := 418) (by decide +kernel), List.mem_of_getElem? (i := 545) (by decide +kernel), List.mem_of_getElem? (i := 546) (by decide +kernel)⟩
theorem lw_p14 : lw_okq (⟨"SnapTableModel", "does", "()I"⟩, 17) := ⟨⟨by decide +kernel, by decide +kernel⟩, List.mem_of_getElem? (i := 418) (by decide +kernel), List.mem_of_getElem? (i := 549) (by decide +kernel), List.mem_of_getElem? (i := 550) (by decide +kernel)⟩
def lw_privs_1 : List (MethodName × Nat) := [(⟨"SnapTable", "refuse", "(I)I"⟩, 7), (⟨"SnapTable", "putWalled", "(IJJ)I"⟩, 7), (⟨"SnapTable", "put", "(IJJ)I"⟩, 7), (⟨"SnapTable", "finish", "()I"⟩, 7), (⟨"SnapTable", "fence", "(LSnapTable$Axis;JJ)I"⟩, 7), (⟨"SnapTable", "nearestGuide", "(J)I"⟩, 7), (⟨"SnapTable", "distance", "(II)D"⟩, 7), (⟨"SnapTable", "cellAt", "(J)I"⟩, 7), (⟨"SnapTable", "markAt", "(J)J"⟩, 7), (⟨"SnapTableModel", "refuses", "(I)I"⟩, 17), (⟨"SnapTableModel", "comes", "(IJI)I"⟩, 17), (⟨"SnapTableModel", "walled", "(J)J"⟩, 17), (⟨"SnapTableModel", "railed", "(I)I"⟩, 17), (⟨"SnapTableModel", "keeps", "(I)V"⟩, 17), (⟨"SnapTableModel", "does", "()I"⟩, 17)]
theorem lw_r1 : ∀ q ∈ lw_privs_1, lw_okq q := List.forall_mem_cons.mpr ⟨lw_p0, List.forall_mem_cons.mpr ⟨lw_p1, List.forall_mem_cons.mpr ⟨lw_p2, List.forall_mem_cons.mpr ⟨lw_p3, List.forall_mem_cons.mpr ⟨lw_p4, List.forall_mem_cons.mpr ⟨lw_p5, List.forall_mem_cons.mpr ⟨lw_p6, List.forall_mem_cons.mpr ⟨lw_p7, List.forall_mem_cons.mpr ⟨lw_p8, List.forall_mem_cons.mpr ⟨lw_p9, List.forall_mem_cons.mpr ⟨lw_p10, List.forall_mem_cons.mpr ⟨lw_p11, List.forall_mem_cons.mpr ⟨lw_p12, List.forall_mem_cons.mpr ⟨lw_p13, List.forall_mem_cons.mpr ⟨lw_p14, fun _ h => absurd h List.not_mem_nil⟩⟩⟩⟩⟩⟩⟩⟩⟩⟩⟩⟩⟩⟩⟩
def lw_privs : List (MethodName × Nat) := lw_privs_1
def lw_tbl : List Cond := k2_sels lw_privs ++ tables_1
theorem lw_privs_ok : ∀ q ∈ lw_privs, lw_okq q := lw_r1
-- ===== end of PART A; then your names; then what follows =====
end
section
/-! ===== BEGIN words of one list among another's, by their places ===== -/
theorem goodIn_r {big : List Cond} (ws : List Cond) (ps : List Nat) (hp : ws = ps.filterMap (fun i => big[i]?)) (h : ws.all goodWord = true) : GoodIn big ws := by
  intro w hw
  have h1 := List.all_eq_true.mp h w hw
  rw [hp] at hw
  obtain ⟨i, -, hi⟩ := List.mem_filterMap.mp hw
  have hm : w ∈ big := by first | exact List.mem_of_getElem? hi | exact List.getElem?_mem hi
  exact ⟨hm, good_of_word h1⟩
theorem goodIn_app {big a b : List Cond} (ha : GoodIn big a) (hb : GoodIn big b) : GoodIn big (a ++ b) := fun w h => (List.mem_append.mp h).elim (ha w) (hb w)
theorem goodIn_ca {big a b : List Cond} {c : Cond} (ha : GoodIn big (c :: a)) (hb : GoodIn big b) : GoodIn big (c :: (a ++ b)) := fun w h => (List.mem_cons.mp h).elim (fun e => ha w (List.mem_cons.mpr (Or.inl e))) (fun h => (List.mem_append.mp h).elim (fun h => ha w (List.mem_cons.mpr (Or.inr h))) (hb w))
theorem goodIn_sub {big ws : List Cond} (hm : ∀ w ∈ ws, w ∈ big) (h : ws.all goodWord = true) : GoodIn big ws := fun w hw => ⟨hm w hw, good_of_word (List.all_eq_true.mp h w hw)⟩
/-! ===== END ===== -/

/-! ===== BEGIN printed: names, fields, word lists, decode rows ===== -/
def RX0 : String := "SnapTable$Axis"
def TX0 : u_T := fun k => match k with
  | 0 => ("SnapTable$Axis", "slim", "Z", true)
  | 1 => ("SnapTable$Axis", "at", "[J", true)
  | 2 => ("SnapTable$Axis", "least", "J", false)
  | 3 => ("SnapTable$Axis", "most", "J", false)
  | _ => ("SnapTable$Axis", "step", "J", false)
def tyX0 : Nat → FieldType := fun k => match k with
  | 0 => .boolean
  | 1 => .array .long
  | 2 => .long
  | 3 => .long
  | _ => .long
abbrev wsX00 : List Cond := u_ws RX0 TX0 5
theorem nmX0 : ∀ a, a < 5 → ∀ b, b < 5 → a ≠ b → (TX0 a).2.1 ≠ (TX0 b).2.1 := by decide +kernel
theorem tyX0_ok : ∀ k, k < 5 → parseFieldDescriptor (TX0 k).2.2.1 = some (tyX0 k) := by decide +kernel
abbrev cX0_init : ByteArray := prog_2_method_1_code
def yX0_init : MethodName := ⟨RX0, "<init>", "(Z)V"⟩
abbrev cX0_walled : ByteArray := prog_2_method_2_code
def yX0_walled : MethodName := ⟨RX0, "walled", "(J)J"⟩
abbrev cX0_wallAll : ByteArray := prog_2_method_3_code
def yX0_wallAll : MethodName := ⟨RX0, "wallAll", "(JJ)I"⟩
abbrev cX0_sum : ByteArray := prog_2_method_4_code
def yX0_sum : MethodName := ⟨RX0, "sum", "(JJ)J"⟩
abbrev cX0_apart : ByteArray := prog_2_method_5_code
def yX0_apart : MethodName := ⟨RX0, "apart", "(JJ)D"⟩
abbrev cX0_wholeSteps : ByteArray := prog_2_method_6_code
def yX0_wholeSteps : MethodName := ⟨RX0, "wholeSteps", "(JI)J"⟩
abbrev cX0_snapped : ByteArray := prog_2_method_7_code
def yX0_snapped : MethodName := ⟨RX0, "snapped", "(JI)J"⟩
abbrev cX0_outermost : ByteArray := prog_2_method_8_code
def yX0_outermost : MethodName := ⟨RX0, "outermost", "(I)J"⟩
def RX1 : String := "SnapTable$Bits"
def TX1 : u_T := fun k => match k with
  | _ => ("", "", "", false)
def tyX1 : Nat → FieldType := fun k => match k with
  | _ => .int
abbrev wsX10 : List Cond := u_ws RX1 TX1 0
theorem nmX1 : ∀ a, a < 0 → ∀ b, b < 0 → a ≠ b → (TX1 a).2.1 ≠ (TX1 b).2.1 := by decide +kernel
theorem tyX1_ok : ∀ k, k < 0 → parseFieldDescriptor (TX1 k).2.2.1 = some (tyX1 k) := by decide +kernel
abbrev cX1_isNone : ByteArray := prog_3_method_2_code
def yX1_isNone : MethodName := ⟨RX1, "isNone", "(J)Z"⟩
abbrev cX1_isInfinite : ByteArray := prog_3_method_3_code
def yX1_isInfinite : MethodName := ⟨RX1, "isInfinite", "(J)Z"⟩
abbrev cX1_isAboveZero : ByteArray := prog_3_method_4_code
def yX1_isAboveZero : MethodName := ⟨RX1, "isAboveZero", "(J)Z"⟩
abbrev cX1_opposite : ByteArray := prog_3_method_5_code
def yX1_opposite : MethodName := ⟨RX1, "opposite", "(J)J"⟩
abbrev cX1_withSignOf : ByteArray := prog_3_method_6_code
def yX1_withSignOf : MethodName := ⟨RX1, "withSignOf", "(JJ)J"⟩
abbrev cX1_unit : ByteArray := prog_3_method_7_code
def yX1_unit : MethodName := ⟨RX1, "unit", "(J)J"⟩
abbrev cX1_rank : ByteArray := prog_3_method_8_code
def yX1_rank : MethodName := ⟨RX1, "rank", "(J)J"⟩
abbrev cX1_lesser : ByteArray := prog_3_method_9_code
def yX1_lesser : MethodName := ⟨RX1, "lesser", "(JJ)J"⟩
abbrev cX1_greater : ByteArray := prog_3_method_10_code
def yX1_greater : MethodName := ⟨RX1, "greater", "(JJ)J"⟩
abbrev cX1_outer : ByteArray := prog_3_method_11_code
def yX1_outer : MethodName := ⟨RX1, "outer", "(JJI)J"⟩
abbrev cX1_value : ByteArray := prog_3_method_12_code
def yX1_value : MethodName := ⟨RX1, "value", "(J)D"⟩
abbrev cX1_valueOfSize : ByteArray := prog_3_method_13_code
def yX1_valueOfSize : MethodName := ⟨RX1, "valueOfSize", "(J)D"⟩
abbrev cX1_of : ByteArray := prog_3_method_14_code
def yX1_of : MethodName := ⟨RX1, "of", "(D)J"⟩
abbrev cX1_ofSize : ByteArray := prog_3_method_15_code
def yX1_ofSize : MethodName := ⟨RX1, "ofSize", "(D)J"⟩
def RX2 : String := "SnapTable$Powers"
def TX2 : u_T := fun k => match k with
  | _ => ("", "", "", false)
def tyX2 : Nat → FieldType := fun k => match k with
  | _ => .int
abbrev wsX20 : List Cond := u_ws RX2 TX2 0
theorem nmX2 : ∀ a, a < 0 → ∀ b, b < 0 → a ≠ b → (TX2 a).2.1 ≠ (TX2 b).2.1 := by decide +kernel
theorem tyX2_ok : ∀ k, k < 0 → parseFieldDescriptor (TX2 k).2.2.1 = some (tyX2 k) := by decide +kernel
abbrev cX2_leap : ByteArray := prog_4_method_2_code
def yX2_leap : MethodName := ⟨RX2, "leap", "(I)D"⟩
abbrev cX2_beyondAll : ByteArray := prog_4_method_3_code
def yX2_beyondAll : MethodName := ⟨RX2, "beyondAll", "()D"⟩
abbrev cX2_scaled : ByteArray := prog_4_method_4_code
def yX2_scaled : MethodName := ⟨RX2, "scaled", "(DI)D"⟩
abbrev cX2_floorFromOne : ByteArray := prog_4_method_5_code
def yX2_floorFromOne : MethodName := ⟨RX2, "floorFromOne", "(D)I"⟩
abbrev cX2_floorBelowOne : ByteArray := prog_4_method_6_code
def yX2_floorBelowOne : MethodName := ⟨RX2, "floorBelowOne", "(DI)I"⟩
def RX3 : String := "SnapTable$Slim"
def TX3 : u_T := fun k => match k with
  | _ => ("", "", "", false)
def tyX3 : Nat → FieldType := fun k => match k with
  | _ => .int
abbrev wsX30 : List Cond := u_ws RX3 TX3 0
theorem nmX3 : ∀ a, a < 0 → ∀ b, b < 0 → a ≠ b → (TX3 a).2.1 ≠ (TX3 b).2.1 := by decide +kernel
theorem tyX3_ok : ∀ k, k < 0 → parseFieldDescriptor (TX3 k).2.2.1 = some (tyX3 k) := by decide +kernel
abbrev cX3_widened : ByteArray := prog_5_method_2_code
def yX3_widened : MethodName := ⟨RX3, "widened", "(I)J"⟩
abbrev cX3_narrowed : ByteArray := prog_5_method_3_code
def yX3_narrowed : MethodName := ⟨RX3, "narrowed", "(J)I"⟩
def RX4 : String := "SnapTable$Trail"
def TX4 : u_T := fun k => match k with
  | 0 => ("SnapTable$Trail", "points", "[I", true)
  | 1 => ("SnapTable$Trail", "widths", "[J", true)
  | 2 => ("SnapTable$Trail", "heights", "[J", true)
  | 3 => ("SnapTable$Trail", "next", "I", false)
  | _ => ("SnapTable$Trail", "size", "I", false)
def tyX4 : Nat → FieldType := fun k => match k with
  | 0 => .array .int
  | 1 => .array .long
  | 2 => .array .long
  | 3 => .int
  | _ => .int
abbrev wsX40 : List Cond := u_ws RX4 TX4 5
theorem nmX4 : ∀ a, a < 5 → ∀ b, b < 5 → a ≠ b → (TX4 a).2.1 ≠ (TX4 b).2.1 := by decide +kernel
theorem tyX4_ok : ∀ k, k < 5 → parseFieldDescriptor (TX4 k).2.2.1 = some (tyX4 k) := by decide +kernel
abbrev cX4_init : ByteArray := prog_6_method_1_code
def yX4_init : MethodName := ⟨RX4, "<init>", "()V"⟩
abbrev cX4_keep : ByteArray := prog_6_method_2_code
def yX4_keep : MethodName := ⟨RX4, "keep", "(IJJ)V"⟩
abbrev cX4_takeLatest : ByteArray := prog_6_method_3_code
def yX4_takeLatest : MethodName := ⟨RX4, "takeLatest", "()I"⟩
abbrev cX4_clear : ByteArray := prog_6_method_4_code
def yX4_clear : MethodName := ⟨RX4, "clear", "()V"⟩
def RX5 : String := "SnapTable$Ways"
def TX5 : u_T := fun k => match k with
  | _ => ("", "", "", false)
def tyX5 : Nat → FieldType := fun k => match k with
  | _ => .int
abbrev wsX50 : List Cond := u_ws RX5 TX5 0
theorem nmX5 : ∀ a, a < 0 → ∀ b, b < 0 → a ≠ b → (TX5 a).2.1 ≠ (TX5 b).2.1 := by decide +kernel
theorem tyX5_ok : ∀ k, k < 0 → parseFieldDescriptor (TX5 k).2.2.1 = some (tyX5 k) := by decide +kernel
abbrev cX5_isWay : ByteArray := prog_7_method_2_code
def yX5_isWay : MethodName := ⟨RX5, "isWay", "(I)Z"⟩
abbrev cX5_whole : ByteArray := prog_7_method_3_code
def yX5_whole : MethodName := ⟨RX5, "whole", "(JI)J"⟩
abbrev cX5_growsInSize : ByteArray := prog_7_method_4_code
def yX5_growsInSize : MethodName := ⟨RX5, "growsInSize", "(DZZI)Z"⟩
def RX6 : String := "SnapTable"
def TX6 : u_T := fun k => match k with
  | 0 => ("SnapTable", "widths", "LSnapTable$Axis;", true)
  | 1 => ("SnapTable", "heights", "LSnapTable$Axis;", true)
  | 2 => ("SnapTable", "trail", "LSnapTable$Trail;", true)
  | 3 => ("SnapTable", "guides", "[J", true)
  | 4 => ("SnapTable", "done", "I", false)
  | 5 => ("SnapTable", "refused", "I", false)
  | _ => ("SnapTable", "met", "I", false)
def tyX6 : Nat → FieldType := fun k => match k with
  | 0 => .object "SnapTable$Axis"
  | 1 => .object "SnapTable$Axis"
  | 2 => .object "SnapTable$Trail"
  | 3 => .array .long
  | 4 => .int
  | 5 => .int
  | _ => .int
abbrev wsX60 : List Cond := u_ws RX6 TX6 7
theorem nmX6 : ∀ a, a < 7 → ∀ b, b < 7 → a ≠ b → (TX6 a).2.1 ≠ (TX6 b).2.1 := by decide +kernel
theorem tyX6_ok : ∀ k, k < 7 → parseFieldDescriptor (TX6 k).2.2.1 = some (tyX6 k) := by decide +kernel
abbrev cX6_init : ByteArray := prog_1_method_1_code
def yX6_init : MethodName := ⟨RX6, "<init>", "()V"⟩
abbrev cX6_place : ByteArray := prog_1_method_2_code
def yX6_place : MethodName := ⟨RX6, "place", "(IJI)I"⟩
abbrev cX6_walls : ByteArray := prog_1_method_3_code
def yX6_walls : MethodName := ⟨RX6, "walls", "(JJ)I"⟩
abbrev cX6_rails : ByteArray := prog_1_method_4_code
def yX6_rails : MethodName := ⟨RX6, "rails", "(II)I"⟩
abbrev cX6_steps : ByteArray := prog_1_method_5_code
def yX6_steps : MethodName := ⟨RX6, "steps", "(JI)I"⟩
abbrev cX6_move : ByteArray := prog_1_method_6_code
def yX6_move : MethodName := ⟨RX6, "move", "(IJI)I"⟩
abbrev cX6_snap : ByteArray := prog_1_method_7_code
def yX6_snap : MethodName := ⟨RX6, "snap", "(II)I"⟩
abbrev cX6_lean : ByteArray := prog_1_method_8_code
def yX6_lean : MethodName := ⟨RX6, "lean", "(II)I"⟩
abbrev cX6_pull : ByteArray := prog_1_method_9_code
def yX6_pull : MethodName := ⟨RX6, "pull", "(III)I"⟩
abbrev cX6_swing : ByteArray := prog_1_method_10_code
def yX6_swing : MethodName := ⟨RX6, "swing", "(IJ)I"⟩
abbrev cX6_guide : ByteArray := prog_1_method_11_code
def yX6_guide : MethodName := ⟨RX6, "guide", "(IJ)I"⟩
abbrev cX6_stick : ByteArray := prog_1_method_12_code
def yX6_stick : MethodName := ⟨RX6, "stick", "(IJ)I"⟩
abbrev cX6_undo : ByteArray := prog_1_method_13_code
def yX6_undo : MethodName := ⟨RX6, "undo", "()I"⟩
abbrev cX6_x : ByteArray := prog_1_method_14_code
def yX6_x : MethodName := ⟨RX6, "x", "(I)J"⟩
abbrev cX6_y : ByteArray := prog_1_method_15_code
def yX6_y : MethodName := ⟨RX6, "y", "(I)I"⟩
abbrev cX6_side : ByteArray := prog_1_method_16_code
def yX6_side : MethodName := ⟨RX6, "side", "(I)J"⟩
abbrev cX6_lift : ByteArray := prog_1_method_17_code
def yX6_lift : MethodName := ⟨RX6, "lift", "(I)I"⟩
abbrev cX6_far : ByteArray := prog_1_method_18_code
def yX6_far : MethodName := ⟨RX6, "far", "(II)J"⟩
abbrev cX6_cell : ByteArray := prog_1_method_19_code
def yX6_cell : MethodName := ⟨RX6, "cell", "(I)I"⟩
abbrev cX6_mark : ByteArray := prog_1_method_20_code
def yX6_mark : MethodName := ⟨RX6, "mark", "(I)J"⟩
abbrev cX6_gap : ByteArray := prog_1_method_21_code
def yX6_gap : MethodName := ⟨RX6, "gap", "(II)I"⟩
abbrev cX6_rise : ByteArray := prog_1_method_22_code
def yX6_rise : MethodName := ⟨RX6, "rise", "(II)J"⟩
abbrev cX6_edge : ByteArray := prog_1_method_23_code
def yX6_edge : MethodName := ⟨RX6, "edge", "(I)J"⟩
abbrev cX6_rim : ByteArray := prog_1_method_24_code
def yX6_rim : MethodName := ⟨RX6, "rim", "(I)I"⟩
abbrev cX6_neighbour : ByteArray := prog_1_method_25_code
def yX6_neighbour : MethodName := ⟨RX6, "neighbour", "(I)I"⟩
abbrev cX6_column : ByteArray := prog_1_method_26_code
def yX6_column : MethodName := ⟨RX6, "column", "(I)I"⟩
abbrev cX6_row : ByteArray := prog_1_method_27_code
def yX6_row : MethodName := ⟨RX6, "row", "(I)J"⟩
abbrev cX6_count : ByteArray := prog_1_method_28_code
def yX6_count : MethodName := ⟨RX6, "count", "(I)I"⟩
abbrev cX6_isPoint : ByteArray := prog_1_method_29_code
def yX6_isPoint : MethodName := ⟨RX6, "isPoint", "(I)Z"⟩
abbrev cX6_isEnd : ByteArray := prog_1_method_30_code
def yX6_isEnd : MethodName := ⟨RX6, "isEnd", "(I)Z"⟩
abbrev cX6_refuse : ByteArray := prog_1_method_31_code
def yX6_refuse : MethodName := ⟨RX6, "refuse", "(I)I"⟩
abbrev cX6_finish : ByteArray := prog_1_method_32_code
def yX6_finish : MethodName := ⟨RX6, "finish", "()I"⟩
abbrev cX6_fence : ByteArray := prog_1_method_33_code
def yX6_fence : MethodName := ⟨RX6, "fence", "(LSnapTable$Axis;JJ)I"⟩
abbrev cX6_putWalled : ByteArray := prog_1_method_34_code
def yX6_putWalled : MethodName := ⟨RX6, "putWalled", "(IJJ)I"⟩
abbrev cX6_put : ByteArray := prog_1_method_35_code
def yX6_put : MethodName := ⟨RX6, "put", "(IJJ)I"⟩
abbrev cX6_nearestGuide : ByteArray := prog_1_method_36_code
def yX6_nearestGuide : MethodName := ⟨RX6, "nearestGuide", "(J)I"⟩
abbrev cX6_distance : ByteArray := prog_1_method_37_code
def yX6_distance : MethodName := ⟨RX6, "distance", "(II)D"⟩
abbrev cX6_cellAt : ByteArray := prog_1_method_38_code
def yX6_cellAt : MethodName := ⟨RX6, "cellAt", "(J)I"⟩
abbrev cX6_markAt : ByteArray := prog_1_method_39_code
def yX6_markAt : MethodName := ⟨RX6, "markAt", "(J)J"⟩
def RX7 : String := "SnapTableModel"
def TX7 : u_T := fun k => match k with
  | 0 => ("SnapTableModel", "xs", "[J", true)
  | 1 => ("SnapTableModel", "ys", "[I", true)
  | 2 => ("SnapTableModel", "left", "J", false)
  | 3 => ("SnapTableModel", "right", "J", false)
  | 4 => ("SnapTableModel", "step", "J", false)
  | 5 => ("SnapTableModel", "low", "I", false)
  | 6 => ("SnapTableModel", "high", "I", false)
  | 7 => ("SnapTableModel", "grain", "I", false)
  | 8 => ("SnapTableModel", "guideAt", "[J", true)
  | 9 => ("SnapTableModel", "guideOn", "[Z", true)
  | 10 => ("SnapTableModel", "trailPoint", "[I", true)
  | 11 => ("SnapTableModel", "trailX", "[J", true)
  | 12 => ("SnapTableModel", "trailY", "[I", true)
  | 13 => ("SnapTableModel", "trail", "I", false)
  | 14 => ("SnapTableModel", "done", "I", false)
  | 15 => ("SnapTableModel", "refused", "I", false)
  | _ => ("SnapTableModel", "met", "I", false)
def tyX7 : Nat → FieldType := fun k => match k with
  | 0 => .array .long
  | 1 => .array .int
  | 2 => .long
  | 3 => .long
  | 4 => .long
  | 5 => .int
  | 6 => .int
  | 7 => .int
  | 8 => .array .long
  | 9 => .array .boolean
  | 10 => .array .int
  | 11 => .array .long
  | 12 => .array .int
  | 13 => .int
  | 14 => .int
  | 15 => .int
  | _ => .int
abbrev wsX70 : List Cond := u_ws RX7 TX7 17
theorem nmX7 : ∀ a, a < 17 → ∀ b, b < 17 → a ≠ b → (TX7 a).2.1 ≠ (TX7 b).2.1 := by decide +kernel
theorem tyX7_ok : ∀ k, k < 17 → parseFieldDescriptor (TX7 k).2.2.1 = some (tyX7 k) := by decide +kernel
abbrev cX7_init : ByteArray := prog_9_method_1_code
def yX7_init : MethodName := ⟨RX7, "<init>", "()V"⟩
abbrev cX7_of : ByteArray := prog_9_method_2_code
def yX7_of : MethodName := ⟨RX7, "of", "(J)D"⟩
abbrev cX7_bits : ByteArray := prog_9_method_3_code
def yX7_bits : MethodName := ⟨RX7, "bits", "(D)J"⟩
abbrev cX7_size : ByteArray := prog_9_method_4_code
def yX7_size : MethodName := ⟨RX7, "size", "(J)J"⟩
abbrev cX7_isNone : ByteArray := prog_9_method_5_code
def yX7_isNone : MethodName := ⟨RX7, "isNone", "(J)Z"⟩
abbrev cX7_isInfinite : ByteArray := prog_9_method_6_code
def yX7_isInfinite : MethodName := ⟨RX7, "isInfinite", "(J)Z"⟩
abbrev cX7_order : ByteArray := prog_9_method_7_code
def yX7_order : MethodName := ⟨RX7, "order", "(J)J"⟩
abbrev cX7_lesser : ByteArray := prog_9_method_8_code
def yX7_lesser : MethodName := ⟨RX7, "lesser", "(JJ)J"⟩
abbrev cX7_greater : ByteArray := prog_9_method_9_code
def yX7_greater : MethodName := ⟨RX7, "greater", "(JJ)J"⟩
abbrev cX7_isBelow : ByteArray := prog_9_method_10_code
def yX7_isBelow : MethodName := ⟨RX7, "isBelow", "(JJ)Z"⟩
abbrev cX7_whole : ByteArray := prog_9_method_11_code
def yX7_whole : MethodName := ⟨RX7, "whole", "(JI)J"⟩
abbrev cX7_isOdd : ByteArray := prog_9_method_12_code
def yX7_isOdd : MethodName := ⟨RX7, "isOdd", "(JI)Z"⟩
abbrev cX7_whole32 : ByteArray := prog_9_method_13_code
def yX7_whole32 : MethodName := ⟨RX7, "whole32", "(D)I"⟩
abbrev cX7_of4 : ByteArray := prog_9_method_14_code
def yX7_of4 : MethodName := ⟨RX7, "of4", "(I)F"⟩
abbrev cX7_bits4 : ByteArray := prog_9_method_15_code
def yX7_bits4 : MethodName := ⟨RX7, "bits4", "(F)I"⟩
abbrev cX7_size4 : ByteArray := prog_9_method_16_code
def yX7_size4 : MethodName := ⟨RX7, "size4", "(I)I"⟩
abbrev cX7_isNone4 : ByteArray := prog_9_method_17_code
def yX7_isNone4 : MethodName := ⟨RX7, "isNone4", "(I)Z"⟩
abbrev cX7_isInfinite4 : ByteArray := prog_9_method_18_code
def yX7_isInfinite4 : MethodName := ⟨RX7, "isInfinite4", "(I)Z"⟩
abbrev cX7_order4 : ByteArray := prog_9_method_19_code
def yX7_order4 : MethodName := ⟨RX7, "order4", "(I)I"⟩
abbrev cX7_lesser4 : ByteArray := prog_9_method_20_code
def yX7_lesser4 : MethodName := ⟨RX7, "lesser4", "(II)I"⟩
abbrev cX7_greater4 : ByteArray := prog_9_method_21_code
def yX7_greater4 : MethodName := ⟨RX7, "greater4", "(II)I"⟩
abbrev cX7_isBelow4 : ByteArray := prog_9_method_22_code
def yX7_isBelow4 : MethodName := ⟨RX7, "isBelow4", "(II)Z"⟩
abbrev cX7_whole4 : ByteArray := prog_9_method_23_code
def yX7_whole4 : MethodName := ⟨RX7, "whole4", "(II)I"⟩
abbrev cX7_whole64 : ByteArray := prog_9_method_24_code
def yX7_whole64 : MethodName := ⟨RX7, "whole64", "(F)J"⟩
abbrev cX7_isPoint : ByteArray := prog_9_method_25_code
def yX7_isPoint : MethodName := ⟨RX7, "isPoint", "(I)Z"⟩
abbrev cX7_refuses : ByteArray := prog_9_method_26_code
def yX7_refuses : MethodName := ⟨RX7, "refuses", "(I)I"⟩
abbrev cX7_does : ByteArray := prog_9_method_27_code
def yX7_does : MethodName := ⟨RX7, "does", "()I"⟩
abbrev cX7_walled : ByteArray := prog_9_method_28_code
def yX7_walled : MethodName := ⟨RX7, "walled", "(J)J"⟩
abbrev cX7_railed : ByteArray := prog_9_method_29_code
def yX7_railed : MethodName := ⟨RX7, "railed", "(I)I"⟩
abbrev cX7_keeps : ByteArray := prog_9_method_30_code
def yX7_keeps : MethodName := ⟨RX7, "keeps", "(I)V"⟩
abbrev cX7_comes : ByteArray := prog_9_method_31_code
def yX7_comes : MethodName := ⟨RX7, "comes", "(IJI)I"⟩
abbrev cX7_place : ByteArray := prog_9_method_32_code
def yX7_place : MethodName := ⟨RX7, "place", "(IJI)I"⟩
abbrev cX7_walls : ByteArray := prog_9_method_33_code
def yX7_walls : MethodName := ⟨RX7, "walls", "(JJ)I"⟩
abbrev cX7_rails : ByteArray := prog_9_method_34_code
def yX7_rails : MethodName := ⟨RX7, "rails", "(II)I"⟩
abbrev cX7_steps : ByteArray := prog_9_method_35_code
def yX7_steps : MethodName := ⟨RX7, "steps", "(JI)I"⟩
abbrev cX7_move : ByteArray := prog_9_method_36_code
def yX7_move : MethodName := ⟨RX7, "move", "(IJI)I"⟩
abbrev cX7_snap : ByteArray := prog_9_method_37_code
def yX7_snap : MethodName := ⟨RX7, "snap", "(II)I"⟩
abbrev cX7_lean : ByteArray := prog_9_method_38_code
def yX7_lean : MethodName := ⟨RX7, "lean", "(II)I"⟩
abbrev cX7_pull : ByteArray := prog_9_method_39_code
def yX7_pull : MethodName := ⟨RX7, "pull", "(III)I"⟩
abbrev cX7_swing : ByteArray := prog_9_method_40_code
def yX7_swing : MethodName := ⟨RX7, "swing", "(IJ)I"⟩
abbrev cX7_guide : ByteArray := prog_9_method_41_code
def yX7_guide : MethodName := ⟨RX7, "guide", "(IJ)I"⟩
abbrev cX7_stick : ByteArray := prog_9_method_42_code
def yX7_stick : MethodName := ⟨RX7, "stick", "(IJ)I"⟩
abbrev cX7_undo : ByteArray := prog_9_method_43_code
def yX7_undo : MethodName := ⟨RX7, "undo", "()I"⟩
abbrev cX7_x : ByteArray := prog_9_method_44_code
def yX7_x : MethodName := ⟨RX7, "x", "(I)J"⟩
abbrev cX7_y : ByteArray := prog_9_method_45_code
def yX7_y : MethodName := ⟨RX7, "y", "(I)I"⟩
abbrev cX7_side : ByteArray := prog_9_method_46_code
def yX7_side : MethodName := ⟨RX7, "side", "(I)J"⟩
abbrev cX7_lift : ByteArray := prog_9_method_47_code
def yX7_lift : MethodName := ⟨RX7, "lift", "(I)I"⟩
abbrev cX7_far : ByteArray := prog_9_method_48_code
def yX7_far : MethodName := ⟨RX7, "far", "(II)J"⟩
abbrev cX7_cell : ByteArray := prog_9_method_49_code
def yX7_cell : MethodName := ⟨RX7, "cell", "(I)I"⟩
abbrev cX7_mark : ByteArray := prog_9_method_50_code
def yX7_mark : MethodName := ⟨RX7, "mark", "(I)J"⟩
abbrev cX7_gap : ByteArray := prog_9_method_51_code
def yX7_gap : MethodName := ⟨RX7, "gap", "(II)I"⟩
abbrev cX7_rise : ByteArray := prog_9_method_52_code
def yX7_rise : MethodName := ⟨RX7, "rise", "(II)J"⟩
abbrev cX7_edge : ByteArray := prog_9_method_53_code
def yX7_edge : MethodName := ⟨RX7, "edge", "(I)J"⟩
abbrev cX7_rim : ByteArray := prog_9_method_54_code
def yX7_rim : MethodName := ⟨RX7, "rim", "(I)I"⟩
abbrev cX7_neighbour : ByteArray := prog_9_method_55_code
def yX7_neighbour : MethodName := ⟨RX7, "neighbour", "(I)I"⟩
abbrev cX7_column : ByteArray := prog_9_method_56_code
def yX7_column : MethodName := ⟨RX7, "column", "(I)I"⟩
abbrev cX7_row : ByteArray := prog_9_method_57_code
def yX7_row : MethodName := ⟨RX7, "row", "(I)J"⟩
abbrev cX7_count : ByteArray := prog_9_method_58_code
def yX7_count : MethodName := ⟨RX7, "count", "(I)I"⟩
def RJxe99ae : String := "java/lang/Double"
def TJxe99ae : u_T := fun k => match k with
  | _ => ("", "", "", false)
def tyJxe99ae : Nat → FieldType := fun k => match k with
  | _ => .int
abbrev wsJxe99ae0 : List Cond := u_ws RJxe99ae TJxe99ae 0
theorem nmJxe99ae : ∀ a, a < 0 → ∀ b, b < 0 → a ≠ b → (TJxe99ae a).2.1 ≠ (TJxe99ae b).2.1 := by decide +kernel
theorem tyJxe99ae_ok : ∀ k, k < 0 → parseFieldDescriptor (TJxe99ae k).2.2.1 = some (tyJxe99ae k) := by decide +kernel
abbrev cJxe99ae_isNaN_b9ae7 : ByteArray := prog_10_method_6_code
def yJxe99ae_isNaN_b9ae7 : MethodName := ⟨RJxe99ae, "isNaN", "(D)Z"⟩
abbrev cJxe99ae_doubleToLongBits_ccdee : ByteArray := prog_10_method_23_code
def yJxe99ae_doubleToLongBits_ccdee : MethodName := ⟨RJxe99ae, "doubleToLongBits", "(D)J"⟩
def RJxf58ca : String := "java/lang/Float"
def TJxf58ca : u_T := fun k => match k with
  | _ => ("", "", "", false)
def tyJxf58ca : Nat → FieldType := fun k => match k with
  | _ => .int
abbrev wsJxf58ca0 : List Cond := u_ws RJxf58ca TJxf58ca 0
theorem nmJxf58ca : ∀ a, a < 0 → ∀ b, b < 0 → a ≠ b → (TJxf58ca a).2.1 ≠ (TJxf58ca b).2.1 := by decide +kernel
theorem tyJxf58ca_ok : ∀ k, k < 0 → parseFieldDescriptor (TJxf58ca k).2.2.1 = some (tyJxf58ca k) := by decide +kernel
abbrev cJxf58ca_isNaN_12338 : ByteArray := prog_11_method_6_code
def yJxf58ca_isNaN_12338 : MethodName := ⟨RJxf58ca, "isNaN", "(F)Z"⟩
abbrev cJxf58ca_floatToIntBits_5c35a : ByteArray := prog_11_method_24_code
def yJxf58ca_floatToIntBits_5c35a : MethodName := ⟨RJxf58ca, "floatToIntBits", "(F)I"⟩
def RJ9 : String := "java/lang/Math"
def TJ9 : u_T := fun k => match k with
  | _ => ("", "", "", false)
def tyJ9 : Nat → FieldType := fun k => match k with
  | _ => .int
abbrev wsJ90 : List Cond := u_ws RJ9 TJ9 0
theorem nmJ9 : ∀ a, a < 0 → ∀ b, b < 0 → a ≠ b → (TJ9 a).2.1 ≠ (TJ9 b).2.1 := by decide +kernel
theorem tyJ9_ok : ∀ k, k < 0 → parseFieldDescriptor (TJ9 k).2.2.1 = some (tyJ9 k) := by decide +kernel
abbrev cJ9_abs_0f7a4 : ByteArray := prog_12_method_59_code
def yJ9_abs_0f7a4 : MethodName := ⟨RJ9, "abs", "(I)I"⟩
abbrev cJ9_abs_067f4 : ByteArray := prog_12_method_61_code
def yJ9_abs_067f4 : MethodName := ⟨RJ9, "abs", "(J)J"⟩
def RL : String := "SnapTableLaw"
abbrev cL_law : ByteArray := code
def yL_law : MethodName := ⟨RL, "law", "([I)Z"⟩
def wsX0_init : List Cond := .code yX0_init cX0_init 2 none :: ([.methodLink RX0 3 objectInit, .instanceMethod objectInit, .code objectInit ⟨#[0xb1]⟩ 1 none, .arrayClass .long, .fieldLink RX0 9 "SnapTable$Axis" "at" "[J", .constantLong RX0 17 (-4503599627370496), .fieldLink RX0 19 "SnapTable$Axis" "least" "J", .constantLong RX0 23 (9218868437227405312), .fieldLink RX0 25 "SnapTable$Axis" "most" "J", .constantLong RX0 28 (4607182418800017408), .fieldLink RX0 30 "SnapTable$Axis" "step" "J", .fieldLink RX0 33 "SnapTable$Axis" "slim" "Z"] ++ wsX00)
def wsX1_rank : List Cond := .code yX1_rank cX1_rank 2 (some .long) :: ([.constantLong RX1 9 (9223372036854775807)])
def wsX1_lesser : List Cond := .code yX1_lesser cX1_lesser 4 (some .long) :: ([.methodLink RX1 21 yX1_rank, .static yX1_rank, .initialized RX1, .code yX1_rank cX1_rank 2 (some .long), .constantLong RX1 9 (9223372036854775807)])
def wsX1_greater : List Cond := .code yX1_greater cX1_greater 4 (some .long) :: ([.methodLink RX1 21 yX1_rank, .static yX1_rank, .initialized RX1, .code yX1_rank cX1_rank 2 (some .long), .constantLong RX1 9 (9223372036854775807)])
def wsX0_walled : List Cond := .code yX0_walled cX0_walled 3 (some .long) :: ([.fieldLink RX0 25 "SnapTable$Axis" "most" "J", .fieldLink RX0 19 "SnapTable$Axis" "least" "J", .methodLink RX0 37 yX1_lesser, .static yX1_lesser, .initialized RX1, .code yX1_lesser cX1_lesser 4 (some .long), .methodLink RX1 21 yX1_rank, .static yX1_rank, .code yX1_rank cX1_rank 2 (some .long), .constantLong RX1 9 (9223372036854775807), .methodLink RX0 41 yX1_greater, .static yX1_greater, .code yX1_greater cX1_greater 4 (some .long)] ++ wsX00)
def wsX0_wallAll : List Cond := .code yX0_wallAll cX0_wallAll 9 (some .int) :: ([.fieldLink RX0 19 "SnapTable$Axis" "least" "J", .fieldLink RX0 25 "SnapTable$Axis" "most" "J", .fieldLink RX0 9 "SnapTable$Axis" "at" "[J", .methodLink RX0 44 yX0_walled, .instanceMethod yX0_walled, .selects RX0 yX0_walled yX0_walled, .initialized RX0, .code yX0_walled cX0_walled 3 (some .long), .methodLink RX0 37 yX1_lesser, .static yX1_lesser, .initialized RX1, .code yX1_lesser cX1_lesser 4 (some .long), .methodLink RX1 21 yX1_rank, .static yX1_rank, .code yX1_rank cX1_rank 2 (some .long), .constantLong RX1 9 (9223372036854775807), .methodLink RX0 41 yX1_greater, .static yX1_greater, .code yX1_greater cX1_greater 4 (some .long)] ++ wsX00)
def wsX1_isInfinite : List Cond := .code yX1_isInfinite cX1_isInfinite 2 (some .boolean) :: ([.constantLong RX1 9 (9223372036854775807), .constantLong RX1 11 (9218868437227405312)])
def wsX2_beyondAll : List Cond := .code yX2_beyondAll cX2_beyondAll 0 (some .double) :: ([.constantDouble RX2 27 (9218868437227405312)])
def wsX2_leap : List Cond := .code yX2_leap cX2_leap 1 (some .double) :: ([.constantDouble RX2 7 (4611686018427387904), .constantDouble RX2 9 (4616189618054758400), .constantDouble RX2 11 (4625196817309499392), .constantDouble RX2 13 (4643211215818981376), .constantDouble RX2 15 (4679240012837945344), .constantDouble RX2 17 (4751297606875873280), .constantDouble RX2 19 (4895412794951729152), .constantDouble RX2 21 (5183643171103440896), .constantDouble RX2 23 (5760103923406864384), .constantDouble RX2 25 (6913025428013711360)])
def wsX2_scaled : List Cond := .code yX2_scaled cX2_scaled 7 (some .double) :: ([.methodLink RX2 31 yX2_leap, .static yX2_leap, .initialized RX2, .code yX2_leap cX2_leap 1 (some .double), .constantDouble RX2 7 (4611686018427387904), .constantDouble RX2 9 (4616189618054758400), .constantDouble RX2 11 (4625196817309499392), .constantDouble RX2 13 (4643211215818981376), .constantDouble RX2 15 (4679240012837945344), .constantDouble RX2 17 (4751297606875873280), .constantDouble RX2 19 (4895412794951729152), .constantDouble RX2 21 (5183643171103440896), .constantDouble RX2 23 (5760103923406864384), .constantDouble RX2 25 (6913025428013711360)])
def wsX1_valueOfSize_r1 : List Cond := [Cond.constantLong RX1 9 (9223372036854775807), Cond.constantLong RX1 45 (4503599627370495), Cond.constantDouble RX1 47 (4372995238176751616), Cond.methodLink RX1 35 yX1_isInfinite, Cond.static yX1_isInfinite, Cond.initialized RX1, Cond.code yX1_isInfinite cX1_isInfinite 2 (some .boolean), Cond.constantLong RX1 11 (9218868437227405312), Cond.methodLink RX1 39 yX2_beyondAll, Cond.static yX2_beyondAll, Cond.initialized RX2, Cond.code yX2_beyondAll cX2_beyondAll 0 (some .double), Cond.constantDouble RX2 27 (9218868437227405312), Cond.methodLink RX1 49 yX2_scaled, Cond.static yX2_scaled, Cond.code yX2_scaled cX2_scaled 7 (some .double), Cond.methodLink RX2 31 yX2_leap, Cond.static yX2_leap, Cond.code yX2_leap cX2_leap 1 (some .double), Cond.constantDouble RX2 7 (4611686018427387904), Cond.constantDouble RX2 9 (4616189618054758400), Cond.constantDouble RX2 11 (4625196817309499392), Cond.constantDouble RX2 13 (4643211215818981376), Cond.constantDouble RX2 15 (4679240012837945344)]
def wsX1_valueOfSize_r2 : List Cond := [Cond.constantDouble RX2 17 (4751297606875873280), Cond.constantDouble RX2 19 (4895412794951729152), Cond.constantDouble RX2 21 (5183643171103440896), Cond.constantDouble RX2 23 (5760103923406864384), Cond.constantDouble RX2 25 (6913025428013711360)]
def wsX1_valueOfSize : List Cond := .code yX1_valueOfSize cX1_valueOfSize 5 (some .double) :: ((wsX1_valueOfSize_r1 ++ wsX1_valueOfSize_r2))
def wsX1_value_r1 : List Cond := [Cond.methodLink RX1 31 yX1_valueOfSize, Cond.static yX1_valueOfSize, Cond.initialized RX1, Cond.code yX1_valueOfSize cX1_valueOfSize 5 (some .double), Cond.constantLong RX1 9 (9223372036854775807), Cond.constantLong RX1 45 (4503599627370495), Cond.constantDouble RX1 47 (4372995238176751616), Cond.methodLink RX1 35 yX1_isInfinite, Cond.static yX1_isInfinite, Cond.code yX1_isInfinite cX1_isInfinite 2 (some .boolean), Cond.constantLong RX1 11 (9218868437227405312), Cond.methodLink RX1 39 yX2_beyondAll, Cond.static yX2_beyondAll, Cond.initialized RX2, Cond.code yX2_beyondAll cX2_beyondAll 0 (some .double), Cond.constantDouble RX2 27 (9218868437227405312), Cond.methodLink RX1 49 yX2_scaled, Cond.static yX2_scaled, Cond.code yX2_scaled cX2_scaled 7 (some .double), Cond.methodLink RX2 31 yX2_leap, Cond.static yX2_leap, Cond.code yX2_leap cX2_leap 1 (some .double), Cond.constantDouble RX2 7 (4611686018427387904), Cond.constantDouble RX2 9 (4616189618054758400)]
def wsX1_value_r2 : List Cond := [Cond.constantDouble RX2 11 (4625196817309499392), Cond.constantDouble RX2 13 (4643211215818981376), Cond.constantDouble RX2 15 (4679240012837945344), Cond.constantDouble RX2 17 (4751297606875873280), Cond.constantDouble RX2 19 (4895412794951729152), Cond.constantDouble RX2 21 (5183643171103440896), Cond.constantDouble RX2 23 (5760103923406864384), Cond.constantDouble RX2 25 (6913025428013711360)]
def wsX1_value : List Cond := .code yX1_value cX1_value 4 (some .double) :: ((wsX1_value_r1 ++ wsX1_value_r2))
def wsX2_floorFromOne : List Cond := .code yX2_floorFromOne cX2_floorFromOne 6 (some .int) :: ([.methodLink RX2 31 yX2_leap, .static yX2_leap, .initialized RX2, .code yX2_leap cX2_leap 1 (some .double), .constantDouble RX2 7 (4611686018427387904), .constantDouble RX2 9 (4616189618054758400), .constantDouble RX2 11 (4625196817309499392), .constantDouble RX2 13 (4643211215818981376), .constantDouble RX2 15 (4679240012837945344), .constantDouble RX2 17 (4751297606875873280), .constantDouble RX2 19 (4895412794951729152), .constantDouble RX2 21 (5183643171103440896), .constantDouble RX2 23 (5760103923406864384), .constantDouble RX2 25 (6913025428013711360)])
def wsX2_floorBelowOne : List Cond := .code yX2_floorBelowOne cX2_floorBelowOne 7 (some .int) :: ([.constantDouble RX2 7 (4611686018427387904), .methodLink RX2 31 yX2_leap, .static yX2_leap, .initialized RX2, .code yX2_leap cX2_leap 1 (some .double), .constantDouble RX2 9 (4616189618054758400), .constantDouble RX2 11 (4625196817309499392), .constantDouble RX2 13 (4643211215818981376), .constantDouble RX2 15 (4679240012837945344), .constantDouble RX2 17 (4751297606875873280), .constantDouble RX2 19 (4895412794951729152), .constantDouble RX2 21 (5183643171103440896), .constantDouble RX2 23 (5760103923406864384), .constantDouble RX2 25 (6913025428013711360)])
def wsX1_ofSize_r1 : List Cond := [Cond.constantLong RX1 11 (9218868437227405312), Cond.constantDouble RX1 65 (4841369599423283200), Cond.methodLink RX1 39 yX2_beyondAll, Cond.static yX2_beyondAll, Cond.initialized RX2, Cond.code yX2_beyondAll cX2_beyondAll 0 (some .double), Cond.constantDouble RX2 27 (9218868437227405312), Cond.methodLink RX1 57 yX2_floorFromOne, Cond.static yX2_floorFromOne, Cond.code yX2_floorFromOne cX2_floorFromOne 6 (some .int), Cond.methodLink RX2 31 yX2_leap, Cond.static yX2_leap, Cond.code yX2_leap cX2_leap 1 (some .double), Cond.constantDouble RX2 7 (4611686018427387904), Cond.constantDouble RX2 9 (4616189618054758400), Cond.constantDouble RX2 11 (4625196817309499392), Cond.constantDouble RX2 13 (4643211215818981376), Cond.constantDouble RX2 15 (4679240012837945344), Cond.constantDouble RX2 17 (4751297606875873280), Cond.constantDouble RX2 19 (4895412794951729152), Cond.constantDouble RX2 21 (5183643171103440896), Cond.constantDouble RX2 23 (5760103923406864384), Cond.constantDouble RX2 25 (6913025428013711360), Cond.methodLink RX1 61 yX2_floorBelowOne]
def wsX1_ofSize_r2 : List Cond := [Cond.static yX2_floorBelowOne, Cond.code yX2_floorBelowOne cX2_floorBelowOne 7 (some .int), Cond.methodLink RX1 49 yX2_scaled, Cond.static yX2_scaled, Cond.code yX2_scaled cX2_scaled 7 (some .double)]
def wsX1_ofSize : List Cond := .code yX1_ofSize cX1_ofSize 5 (some .long) :: ((wsX1_ofSize_r1 ++ wsX1_ofSize_r2))
def wsX1_of_r1 : List Cond := [Cond.constantLong RX1 13 (-9223372036854775808), Cond.methodLink RX1 53 yX1_ofSize, Cond.static yX1_ofSize, Cond.initialized RX1, Cond.code yX1_ofSize cX1_ofSize 5 (some .long), Cond.constantLong RX1 11 (9218868437227405312), Cond.constantDouble RX1 65 (4841369599423283200), Cond.methodLink RX1 39 yX2_beyondAll, Cond.static yX2_beyondAll, Cond.initialized RX2, Cond.code yX2_beyondAll cX2_beyondAll 0 (some .double), Cond.constantDouble RX2 27 (9218868437227405312), Cond.methodLink RX1 57 yX2_floorFromOne, Cond.static yX2_floorFromOne, Cond.code yX2_floorFromOne cX2_floorFromOne 6 (some .int), Cond.methodLink RX2 31 yX2_leap, Cond.static yX2_leap, Cond.code yX2_leap cX2_leap 1 (some .double), Cond.constantDouble RX2 7 (4611686018427387904), Cond.constantDouble RX2 9 (4616189618054758400), Cond.constantDouble RX2 11 (4625196817309499392), Cond.constantDouble RX2 13 (4643211215818981376), Cond.constantDouble RX2 15 (4679240012837945344), Cond.constantDouble RX2 17 (4751297606875873280)]
def wsX1_of_r2 : List Cond := [Cond.constantDouble RX2 19 (4895412794951729152), Cond.constantDouble RX2 21 (5183643171103440896), Cond.constantDouble RX2 23 (5760103923406864384), Cond.constantDouble RX2 25 (6913025428013711360), Cond.methodLink RX1 61 yX2_floorBelowOne, Cond.static yX2_floorBelowOne, Cond.code yX2_floorBelowOne cX2_floorBelowOne 7 (some .int), Cond.methodLink RX1 49 yX2_scaled, Cond.static yX2_scaled, Cond.code yX2_scaled cX2_scaled 7 (some .double)]
def wsX1_of : List Cond := .code yX1_of cX1_of 2 (some .long) :: ((wsX1_of_r1 ++ wsX1_of_r2))
def wsX0_sum_r1 : List Cond := [Cond.fieldLink RX0 33 "SnapTable$Axis" "slim" "Z", Cond.constantLong RX0 52 (-9223372036854775808), Cond.methodLink RX0 48 yX1_value, Cond.static yX1_value, Cond.initialized RX1, Cond.code yX1_value cX1_value 4 (some .double), Cond.methodLink RX1 31 yX1_valueOfSize, Cond.static yX1_valueOfSize, Cond.code yX1_valueOfSize cX1_valueOfSize 5 (some .double), Cond.constantLong RX1 9 (9223372036854775807), Cond.constantLong RX1 45 (4503599627370495), Cond.constantDouble RX1 47 (4372995238176751616), Cond.methodLink RX1 35 yX1_isInfinite, Cond.static yX1_isInfinite, Cond.code yX1_isInfinite cX1_isInfinite 2 (some .boolean), Cond.constantLong RX1 11 (9218868437227405312), Cond.methodLink RX1 39 yX2_beyondAll, Cond.static yX2_beyondAll, Cond.initialized RX2, Cond.code yX2_beyondAll cX2_beyondAll 0 (some .double), Cond.constantDouble RX2 27 (9218868437227405312), Cond.methodLink RX1 49 yX2_scaled, Cond.static yX2_scaled, Cond.code yX2_scaled cX2_scaled 7 (some .double)]
def wsX0_sum_r2 : List Cond := [Cond.methodLink RX2 31 yX2_leap, Cond.static yX2_leap, Cond.code yX2_leap cX2_leap 1 (some .double), Cond.constantDouble RX2 7 (4611686018427387904), Cond.constantDouble RX2 9 (4616189618054758400), Cond.constantDouble RX2 11 (4625196817309499392), Cond.constantDouble RX2 13 (4643211215818981376), Cond.constantDouble RX2 15 (4679240012837945344), Cond.constantDouble RX2 17 (4751297606875873280), Cond.constantDouble RX2 19 (4895412794951729152), Cond.constantDouble RX2 21 (5183643171103440896), Cond.constantDouble RX2 23 (5760103923406864384), Cond.constantDouble RX2 25 (6913025428013711360), Cond.methodLink RX0 54 yX1_of, Cond.static yX1_of, Cond.code yX1_of cX1_of 2 (some .long), Cond.constantLong RX1 13 (-9223372036854775808), Cond.methodLink RX1 53 yX1_ofSize, Cond.static yX1_ofSize, Cond.code yX1_ofSize cX1_ofSize 5 (some .long), Cond.constantDouble RX1 65 (4841369599423283200), Cond.methodLink RX1 57 yX2_floorFromOne, Cond.static yX2_floorFromOne, Cond.code yX2_floorFromOne cX2_floorFromOne 6 (some .int)]
def wsX0_sum_r3 : List Cond := [Cond.methodLink RX1 61 yX2_floorBelowOne, Cond.static yX2_floorBelowOne, Cond.code yX2_floorBelowOne cX2_floorBelowOne 7 (some .int)]
def wsX0_sum : List Cond := .code yX0_sum cX0_sum 11 (some .long) :: ((wsX0_sum_r1 ++ (wsX0_sum_r2 ++ wsX0_sum_r3)) ++ wsX00)
def wsX0_apart_r1 : List Cond := [Cond.fieldLink RX0 33 "SnapTable$Axis" "slim" "Z", Cond.methodLink RX0 48 yX1_value, Cond.static yX1_value, Cond.initialized RX1, Cond.code yX1_value cX1_value 4 (some .double), Cond.methodLink RX1 31 yX1_valueOfSize, Cond.static yX1_valueOfSize, Cond.code yX1_valueOfSize cX1_valueOfSize 5 (some .double), Cond.constantLong RX1 9 (9223372036854775807), Cond.constantLong RX1 45 (4503599627370495), Cond.constantDouble RX1 47 (4372995238176751616), Cond.methodLink RX1 35 yX1_isInfinite, Cond.static yX1_isInfinite, Cond.code yX1_isInfinite cX1_isInfinite 2 (some .boolean), Cond.constantLong RX1 11 (9218868437227405312), Cond.methodLink RX1 39 yX2_beyondAll, Cond.static yX2_beyondAll, Cond.initialized RX2, Cond.code yX2_beyondAll cX2_beyondAll 0 (some .double), Cond.constantDouble RX2 27 (9218868437227405312), Cond.methodLink RX1 49 yX2_scaled, Cond.static yX2_scaled, Cond.code yX2_scaled cX2_scaled 7 (some .double), Cond.methodLink RX2 31 yX2_leap]
def wsX0_apart_r2 : List Cond := [Cond.static yX2_leap, Cond.code yX2_leap cX2_leap 1 (some .double), Cond.constantDouble RX2 7 (4611686018427387904), Cond.constantDouble RX2 9 (4616189618054758400), Cond.constantDouble RX2 11 (4625196817309499392), Cond.constantDouble RX2 13 (4643211215818981376), Cond.constantDouble RX2 15 (4679240012837945344), Cond.constantDouble RX2 17 (4751297606875873280), Cond.constantDouble RX2 19 (4895412794951729152), Cond.constantDouble RX2 21 (5183643171103440896), Cond.constantDouble RX2 23 (5760103923406864384), Cond.constantDouble RX2 25 (6913025428013711360)]
def wsX0_apart : List Cond := .code yX0_apart cX0_apart 11 (some .double) :: ((wsX0_apart_r1 ++ wsX0_apart_r2) ++ wsX00)
def wsX1_withSignOf : List Cond := .code yX1_withSignOf cX1_withSignOf 4 (some .long) :: ([.constantLong RX1 9 (9223372036854775807), .constantLong RX1 13 (-9223372036854775808)])
def wsX5_growsInSize : List Cond := .code yX5_growsInSize cX5_growsInSize 5 (some .boolean) :: ([.constantDouble RX5 33 (4602678819172646912)])
def wsX5_whole_r1 : List Cond := [Cond.constantLong RX5 11 (9223372036854775807), Cond.constantLong RX5 13 (4841369599423283200), Cond.constantLong RX5 19 (2), Cond.methodLink RX5 15 yX1_valueOfSize, Cond.static yX1_valueOfSize, Cond.initialized RX1, Cond.code yX1_valueOfSize cX1_valueOfSize 5 (some .double), Cond.constantLong RX1 9 (9223372036854775807), Cond.constantLong RX1 45 (4503599627370495), Cond.constantDouble RX1 47 (4372995238176751616), Cond.methodLink RX1 35 yX1_isInfinite, Cond.static yX1_isInfinite, Cond.code yX1_isInfinite cX1_isInfinite 2 (some .boolean), Cond.constantLong RX1 11 (9218868437227405312), Cond.methodLink RX1 39 yX2_beyondAll, Cond.static yX2_beyondAll, Cond.initialized RX2, Cond.code yX2_beyondAll cX2_beyondAll 0 (some .double), Cond.constantDouble RX2 27 (9218868437227405312), Cond.methodLink RX1 49 yX2_scaled, Cond.static yX2_scaled, Cond.code yX2_scaled cX2_scaled 7 (some .double), Cond.methodLink RX2 31 yX2_leap, Cond.static yX2_leap]
def wsX5_whole_r2 : List Cond := [Cond.code yX2_leap cX2_leap 1 (some .double), Cond.constantDouble RX2 7 (4611686018427387904), Cond.constantDouble RX2 9 (4616189618054758400), Cond.constantDouble RX2 11 (4625196817309499392), Cond.constantDouble RX2 13 (4643211215818981376), Cond.constantDouble RX2 15 (4679240012837945344), Cond.constantDouble RX2 17 (4751297606875873280), Cond.constantDouble RX2 19 (4895412794951729152), Cond.constantDouble RX2 21 (5183643171103440896), Cond.constantDouble RX2 23 (5760103923406864384), Cond.constantDouble RX2 25 (6913025428013711360), Cond.methodLink RX5 21 yX5_growsInSize, Cond.static yX5_growsInSize, Cond.initialized RX5, Cond.code yX5_growsInSize cX5_growsInSize 5 (some .boolean), Cond.constantDouble RX5 33 (4602678819172646912), Cond.methodLink RX5 25 yX1_ofSize, Cond.static yX1_ofSize, Cond.code yX1_ofSize cX1_ofSize 5 (some .long), Cond.constantDouble RX1 65 (4841369599423283200), Cond.methodLink RX1 57 yX2_floorFromOne, Cond.static yX2_floorFromOne, Cond.code yX2_floorFromOne cX2_floorFromOne 6 (some .int), Cond.methodLink RX1 61 yX2_floorBelowOne]
def wsX5_whole_r3 : List Cond := [Cond.static yX2_floorBelowOne, Cond.code yX2_floorBelowOne cX2_floorBelowOne 7 (some .int), Cond.methodLink RX5 29 yX1_withSignOf, Cond.static yX1_withSignOf, Cond.code yX1_withSignOf cX1_withSignOf 4 (some .long), Cond.constantLong RX1 13 (-9223372036854775808)]
def wsX5_whole : List Cond := .code yX5_whole cX5_whole 8 (some .long) :: ((wsX5_whole_r1 ++ (wsX5_whole_r2 ++ wsX5_whole_r3)))
def wsX0_wholeSteps_r1 : List Cond := [Cond.fieldLink RX0 30 "SnapTable$Axis" "step" "J", Cond.fieldLink RX0 33 "SnapTable$Axis" "slim" "Z", Cond.methodLink RX0 58 yX1_valueOfSize, Cond.static yX1_valueOfSize, Cond.initialized RX1, Cond.code yX1_valueOfSize cX1_valueOfSize 5 (some .double), Cond.constantLong RX1 9 (9223372036854775807), Cond.constantLong RX1 45 (4503599627370495), Cond.constantDouble RX1 47 (4372995238176751616), Cond.methodLink RX1 35 yX1_isInfinite, Cond.static yX1_isInfinite, Cond.code yX1_isInfinite cX1_isInfinite 2 (some .boolean), Cond.constantLong RX1 11 (9218868437227405312), Cond.methodLink RX1 39 yX2_beyondAll, Cond.static yX2_beyondAll, Cond.initialized RX2, Cond.code yX2_beyondAll cX2_beyondAll 0 (some .double), Cond.constantDouble RX2 27 (9218868437227405312), Cond.methodLink RX1 49 yX2_scaled, Cond.static yX2_scaled, Cond.code yX2_scaled cX2_scaled 7 (some .double), Cond.methodLink RX2 31 yX2_leap, Cond.static yX2_leap, Cond.code yX2_leap cX2_leap 1 (some .double)]
def wsX0_wholeSteps_r2 : List Cond := [Cond.constantDouble RX2 7 (4611686018427387904), Cond.constantDouble RX2 9 (4616189618054758400), Cond.constantDouble RX2 11 (4625196817309499392), Cond.constantDouble RX2 13 (4643211215818981376), Cond.constantDouble RX2 15 (4679240012837945344), Cond.constantDouble RX2 17 (4751297606875873280), Cond.constantDouble RX2 19 (4895412794951729152), Cond.constantDouble RX2 21 (5183643171103440896), Cond.constantDouble RX2 23 (5760103923406864384), Cond.constantDouble RX2 25 (6913025428013711360), Cond.methodLink RX0 61 yX1_ofSize, Cond.static yX1_ofSize, Cond.code yX1_ofSize cX1_ofSize 5 (some .long), Cond.constantDouble RX1 65 (4841369599423283200), Cond.methodLink RX1 57 yX2_floorFromOne, Cond.static yX2_floorFromOne, Cond.code yX2_floorFromOne cX2_floorFromOne 6 (some .int), Cond.methodLink RX1 61 yX2_floorBelowOne, Cond.static yX2_floorBelowOne, Cond.code yX2_floorBelowOne cX2_floorBelowOne 7 (some .int), Cond.methodLink RX0 64 yX1_withSignOf, Cond.static yX1_withSignOf, Cond.code yX1_withSignOf cX1_withSignOf 4 (some .long), Cond.constantLong RX1 13 (-9223372036854775808)]
def wsX0_wholeSteps_r3 : List Cond := [Cond.methodLink RX0 67 yX5_whole, Cond.static yX5_whole, Cond.initialized RX5, Cond.code yX5_whole cX5_whole 8 (some .long), Cond.constantLong RX5 11 (9223372036854775807), Cond.constantLong RX5 13 (4841369599423283200), Cond.constantLong RX5 19 (2), Cond.methodLink RX5 15 yX1_valueOfSize, Cond.methodLink RX5 21 yX5_growsInSize, Cond.static yX5_growsInSize, Cond.code yX5_growsInSize cX5_growsInSize 5 (some .boolean), Cond.constantDouble RX5 33 (4602678819172646912), Cond.methodLink RX5 25 yX1_ofSize, Cond.methodLink RX5 29 yX1_withSignOf]
def wsX0_wholeSteps : List Cond := .code yX0_wholeSteps cX0_wholeSteps 10 (some .long) :: ((wsX0_wholeSteps_r1 ++ (wsX0_wholeSteps_r2 ++ wsX0_wholeSteps_r3)) ++ wsX00)
def wsX0_snapped_r1 : List Cond := [Cond.fieldLink RX0 30 "SnapTable$Axis" "step" "J", Cond.fieldLink RX0 33 "SnapTable$Axis" "slim" "Z", Cond.methodLink RX0 73 yX0_wholeSteps, Cond.instanceMethod yX0_wholeSteps, Cond.selects RX0 yX0_wholeSteps yX0_wholeSteps, Cond.initialized RX0, Cond.code yX0_wholeSteps cX0_wholeSteps 10 (some .long), Cond.methodLink RX0 58 yX1_valueOfSize, Cond.static yX1_valueOfSize, Cond.initialized RX1, Cond.code yX1_valueOfSize cX1_valueOfSize 5 (some .double), Cond.constantLong RX1 9 (9223372036854775807), Cond.constantLong RX1 45 (4503599627370495), Cond.constantDouble RX1 47 (4372995238176751616), Cond.methodLink RX1 35 yX1_isInfinite, Cond.static yX1_isInfinite, Cond.code yX1_isInfinite cX1_isInfinite 2 (some .boolean), Cond.constantLong RX1 11 (9218868437227405312), Cond.methodLink RX1 39 yX2_beyondAll, Cond.static yX2_beyondAll, Cond.initialized RX2, Cond.code yX2_beyondAll cX2_beyondAll 0 (some .double), Cond.constantDouble RX2 27 (9218868437227405312), Cond.methodLink RX1 49 yX2_scaled]
def wsX0_snapped_r2 : List Cond := [Cond.static yX2_scaled, Cond.code yX2_scaled cX2_scaled 7 (some .double), Cond.methodLink RX2 31 yX2_leap, Cond.static yX2_leap, Cond.code yX2_leap cX2_leap 1 (some .double), Cond.constantDouble RX2 7 (4611686018427387904), Cond.constantDouble RX2 9 (4616189618054758400), Cond.constantDouble RX2 11 (4625196817309499392), Cond.constantDouble RX2 13 (4643211215818981376), Cond.constantDouble RX2 15 (4679240012837945344), Cond.constantDouble RX2 17 (4751297606875873280), Cond.constantDouble RX2 19 (4895412794951729152), Cond.constantDouble RX2 21 (5183643171103440896), Cond.constantDouble RX2 23 (5760103923406864384), Cond.constantDouble RX2 25 (6913025428013711360), Cond.methodLink RX0 61 yX1_ofSize, Cond.static yX1_ofSize, Cond.code yX1_ofSize cX1_ofSize 5 (some .long), Cond.constantDouble RX1 65 (4841369599423283200), Cond.methodLink RX1 57 yX2_floorFromOne, Cond.static yX2_floorFromOne, Cond.code yX2_floorFromOne cX2_floorFromOne 6 (some .int), Cond.methodLink RX1 61 yX2_floorBelowOne, Cond.static yX2_floorBelowOne]
def wsX0_snapped_r3 : List Cond := [Cond.code yX2_floorBelowOne cX2_floorBelowOne 7 (some .int), Cond.methodLink RX0 64 yX1_withSignOf, Cond.static yX1_withSignOf, Cond.code yX1_withSignOf cX1_withSignOf 4 (some .long), Cond.constantLong RX1 13 (-9223372036854775808), Cond.methodLink RX0 67 yX5_whole, Cond.static yX5_whole, Cond.initialized RX5, Cond.code yX5_whole cX5_whole 8 (some .long), Cond.constantLong RX5 11 (9223372036854775807), Cond.constantLong RX5 13 (4841369599423283200), Cond.constantLong RX5 19 (2), Cond.methodLink RX5 15 yX1_valueOfSize, Cond.methodLink RX5 21 yX5_growsInSize, Cond.static yX5_growsInSize, Cond.code yX5_growsInSize cX5_growsInSize 5 (some .boolean), Cond.constantDouble RX5 33 (4602678819172646912), Cond.methodLink RX5 25 yX1_ofSize, Cond.methodLink RX5 29 yX1_withSignOf]
def wsX0_snapped : List Cond := .code yX0_snapped cX0_snapped 10 (some .long) :: ((wsX0_snapped_r1 ++ (wsX0_snapped_r2 ++ wsX0_snapped_r3)) ++ wsX00)
def wsX1_outer : List Cond := .code yX1_outer cX1_outer 5 (some .long) :: ([.methodLink RX1 25 yX1_greater, .static yX1_greater, .initialized RX1, .code yX1_greater cX1_greater 4 (some .long), .methodLink RX1 21 yX1_rank, .static yX1_rank, .code yX1_rank cX1_rank 2 (some .long), .constantLong RX1 9 (9223372036854775807), .methodLink RX1 28 yX1_lesser, .static yX1_lesser, .code yX1_lesser cX1_lesser 4 (some .long)])
def wsX0_outermost : List Cond := .code yX0_outermost cX0_outermost 5 (some .long) :: ([.fieldLink RX0 9 "SnapTable$Axis" "at" "[J", .methodLink RX0 76 yX1_outer, .static yX1_outer, .initialized RX1, .code yX1_outer cX1_outer 5 (some .long), .methodLink RX1 25 yX1_greater, .static yX1_greater, .code yX1_greater cX1_greater 4 (some .long), .methodLink RX1 21 yX1_rank, .static yX1_rank, .code yX1_rank cX1_rank 2 (some .long), .constantLong RX1 9 (9223372036854775807), .methodLink RX1 28 yX1_lesser, .static yX1_lesser, .code yX1_lesser cX1_lesser 4 (some .long)] ++ wsX00)
def wsX1_isNone : List Cond := .code yX1_isNone cX1_isNone 2 (some .boolean) :: ([.constantLong RX1 9 (9223372036854775807), .constantLong RX1 11 (9218868437227405312)])
def wsX1_isAboveZero : List Cond := .code yX1_isAboveZero cX1_isAboveZero 2 (some .boolean) :: ([])
def wsX1_opposite : List Cond := .code yX1_opposite cX1_opposite 2 (some .long) :: ([.constantLong RX1 13 (-9223372036854775808)])
def wsX1_unit : List Cond := .code yX1_unit cX1_unit 2 (some .long) :: ([.constantLong RX1 9 (9223372036854775807), .constantLong RX1 15 (4607182418800017408), .methodLink RX1 17 yX1_withSignOf, .static yX1_withSignOf, .initialized RX1, .code yX1_withSignOf cX1_withSignOf 4 (some .long), .constantLong RX1 13 (-9223372036854775808)])
def wsX3_widened_r1 : List Cond := [Cond.constantLong RX3 9 (-9223372036854775808), Cond.constant RX3 13 (2147483647), Cond.constant RX3 14 (2139095040), Cond.constantLong RX3 15 (9218868437227405312), Cond.constant RX3 17 (8388608), Cond.constantDouble RX3 18 (3936146074321813504), Cond.constantLong RX3 24 (4035225266123964416), Cond.methodLink RX3 20 yX1_ofSize, Cond.static yX1_ofSize, Cond.initialized RX1, Cond.code yX1_ofSize cX1_ofSize 5 (some .long), Cond.constantLong RX1 11 (9218868437227405312), Cond.constantDouble RX1 65 (4841369599423283200), Cond.methodLink RX1 39 yX2_beyondAll, Cond.static yX2_beyondAll, Cond.initialized RX2, Cond.code yX2_beyondAll cX2_beyondAll 0 (some .double), Cond.constantDouble RX2 27 (9218868437227405312), Cond.methodLink RX1 57 yX2_floorFromOne, Cond.static yX2_floorFromOne, Cond.code yX2_floorFromOne cX2_floorFromOne 6 (some .int), Cond.methodLink RX2 31 yX2_leap, Cond.static yX2_leap, Cond.code yX2_leap cX2_leap 1 (some .double)]
def wsX3_widened_r2 : List Cond := [Cond.constantDouble RX2 7 (4611686018427387904), Cond.constantDouble RX2 9 (4616189618054758400), Cond.constantDouble RX2 11 (4625196817309499392), Cond.constantDouble RX2 13 (4643211215818981376), Cond.constantDouble RX2 15 (4679240012837945344), Cond.constantDouble RX2 17 (4751297606875873280), Cond.constantDouble RX2 19 (4895412794951729152), Cond.constantDouble RX2 21 (5183643171103440896), Cond.constantDouble RX2 23 (5760103923406864384), Cond.constantDouble RX2 25 (6913025428013711360), Cond.methodLink RX1 61 yX2_floorBelowOne, Cond.static yX2_floorBelowOne, Cond.code yX2_floorBelowOne cX2_floorBelowOne 7 (some .int), Cond.methodLink RX1 49 yX2_scaled, Cond.static yX2_scaled, Cond.code yX2_scaled cX2_scaled 7 (some .double)]
def wsX3_widened : List Cond := .code yX3_widened cX3_widened 4 (some .long) :: ((wsX3_widened_r1 ++ wsX3_widened_r2))
def wsX3_narrowed_r1 : List Cond := [Cond.constant RX3 26 (-2147483648), Cond.constantLong RX3 27 (9223372036854775807), Cond.constantLong RX3 29 (4039728865751334912), Cond.constantDouble RX3 35 (5278218763278221312), Cond.constantLong RX3 24 (4035225266123964416), Cond.methodLink RX3 31 yX1_valueOfSize, Cond.static yX1_valueOfSize, Cond.initialized RX1, Cond.code yX1_valueOfSize cX1_valueOfSize 5 (some .double), Cond.constantLong RX1 9 (9223372036854775807), Cond.constantLong RX1 45 (4503599627370495), Cond.constantDouble RX1 47 (4372995238176751616), Cond.methodLink RX1 35 yX1_isInfinite, Cond.static yX1_isInfinite, Cond.code yX1_isInfinite cX1_isInfinite 2 (some .boolean), Cond.constantLong RX1 11 (9218868437227405312), Cond.methodLink RX1 39 yX2_beyondAll, Cond.static yX2_beyondAll, Cond.initialized RX2, Cond.code yX2_beyondAll cX2_beyondAll 0 (some .double), Cond.constantDouble RX2 27 (9218868437227405312), Cond.methodLink RX1 49 yX2_scaled, Cond.static yX2_scaled, Cond.code yX2_scaled cX2_scaled 7 (some .double)]
def wsX3_narrowed_r2 : List Cond := [Cond.methodLink RX2 31 yX2_leap, Cond.static yX2_leap, Cond.code yX2_leap cX2_leap 1 (some .double), Cond.constantDouble RX2 7 (4611686018427387904), Cond.constantDouble RX2 9 (4616189618054758400), Cond.constantDouble RX2 11 (4625196817309499392), Cond.constantDouble RX2 13 (4643211215818981376), Cond.constantDouble RX2 15 (4679240012837945344), Cond.constantDouble RX2 17 (4751297606875873280), Cond.constantDouble RX2 19 (4895412794951729152), Cond.constantDouble RX2 21 (5183643171103440896), Cond.constantDouble RX2 23 (5760103923406864384), Cond.constantDouble RX2 25 (6913025428013711360)]
def wsX3_narrowed : List Cond := .code yX3_narrowed cX3_narrowed 5 (some .int) :: ((wsX3_narrowed_r1 ++ wsX3_narrowed_r2))
def wsX4_init : List Cond := .code yX4_init cX4_init 1 none :: ([.methodLink RX4 1 objectInit, .instanceMethod objectInit, .code objectInit ⟨#[0xb1]⟩ 1 none, .arrayClass .int, .fieldLink RX4 9 "SnapTable$Trail" "points" "[I", .arrayClass .long, .fieldLink RX4 13 "SnapTable$Trail" "widths" "[J", .fieldLink RX4 17 "SnapTable$Trail" "heights" "[J"] ++ wsX40)
def wsX4_keep : List Cond := .code yX4_keep cX4_keep 6 none :: ([.fieldLink RX4 9 "SnapTable$Trail" "points" "[I", .fieldLink RX4 20 "SnapTable$Trail" "next" "I", .fieldLink RX4 13 "SnapTable$Trail" "widths" "[J", .fieldLink RX4 17 "SnapTable$Trail" "heights" "[J", .fieldLink RX4 24 "SnapTable$Trail" "size" "I"] ++ wsX40)
def wsX4_takeLatest : List Cond := .code yX4_takeLatest cX4_takeLatest 1 (some .int) :: ([.fieldLink RX4 20 "SnapTable$Trail" "next" "I", .fieldLink RX4 24 "SnapTable$Trail" "size" "I"] ++ wsX40)
def wsX4_clear : List Cond := .code yX4_clear cX4_clear 1 none :: ([.fieldLink RX4 24 "SnapTable$Trail" "size" "I"] ++ wsX40)
def wsX5_isWay : List Cond := .code yX5_isWay cX5_isWay 1 (some .boolean) :: ([])
def wsX6_init_r1 : List Cond := [Cond.methodLink RX6 1 objectInit, Cond.instanceMethod objectInit, Cond.code objectInit ⟨#[0xb1]⟩ 1 none, Cond.classLink RX6 7 RX0, Cond.instantiable RX0 5, Cond.initialized RX0, Cond.fieldLink RX6 12 "SnapTable" "widths" "LSnapTable$Axis;", Cond.fieldLink RX6 18 "SnapTable" "heights" "LSnapTable$Axis;", Cond.classLink RX6 21 RX4, Cond.instantiable RX4 5, Cond.initialized RX4, Cond.fieldLink RX6 24 "SnapTable" "trail" "LSnapTable$Trail;", Cond.arrayClass .long, Cond.fieldLink RX6 28 "SnapTable" "guides" "[J", Cond.constantLong RX6 34 (9218868437227405312), Cond.methodLink RX6 9 yX0_init, Cond.instanceMethod yX0_init, Cond.code yX0_init cX0_init 2 none, Cond.methodLink RX0 3 objectInit, Cond.fieldLink RX0 9 "SnapTable$Axis" "at" "[J", Cond.constantLong RX0 17 (-4503599627370496), Cond.fieldLink RX0 19 "SnapTable$Axis" "least" "J", Cond.constantLong RX0 23 (9218868437227405312), Cond.fieldLink RX0 25 "SnapTable$Axis" "most" "J"]
def wsX6_init_r2 : List Cond := [Cond.constantLong RX0 28 (4607182418800017408), Cond.fieldLink RX0 30 "SnapTable$Axis" "step" "J", Cond.fieldLink RX0 33 "SnapTable$Axis" "slim" "Z", Cond.instanceMethod yX4_init, Cond.code yX4_init cX4_init 1 none, Cond.methodLink RX4 1 objectInit, Cond.arrayClass .int, Cond.fieldLink RX4 9 "SnapTable$Trail" "points" "[I", Cond.fieldLink RX4 13 "SnapTable$Trail" "widths" "[J", Cond.fieldLink RX4 17 "SnapTable$Trail" "heights" "[J"]
def wsX6_init : List Cond := .code yX6_init cX6_init 2 none :: ((wsX6_init_r1 ++ wsX6_init_r2) ++ wsX00 ++ wsX60 ++ wsX40)
def wsX6_isPoint : List Cond := .code yX6_isPoint cX6_isPoint 1 (some .boolean) :: ([])
def wsX6_refuse : List Cond := .code yX6_refuse cX6_refuse 2 (some .int) :: ([.fieldLink RX6 169 "SnapTable" "refused" "I"] ++ wsX60)
def wsX6_finish : List Cond := .code yX6_finish cX6_finish 1 (some .int) :: ([.fieldLink RX6 166 "SnapTable" "done" "I"] ++ wsX60)
def wsX6_put : List Cond := .code yX6_put cX6_put 6 (some .int) :: ([.fieldLink RX6 24 "SnapTable" "trail" "LSnapTable$Trail;", .fieldLink RX6 12 "SnapTable" "widths" "LSnapTable$Axis;", .fieldLink RX6 18 "SnapTable" "heights" "LSnapTable$Axis;", .methodLink RX6 185 yX4_keep, .instanceMethod yX4_keep, .selects RX4 yX4_keep yX4_keep, .initialized RX4, .code yX4_keep cX4_keep 6 none, .fieldLink RX4 9 "SnapTable$Trail" "points" "[I", .fieldLink RX4 20 "SnapTable$Trail" "next" "I", .fieldLink RX4 13 "SnapTable$Trail" "widths" "[J", .fieldLink RX4 17 "SnapTable$Trail" "heights" "[J", .fieldLink RX4 24 "SnapTable$Trail" "size" "I", .methodLink RX6 72 yX6_finish, .instanceMethod yX6_finish, .selects RX6 yX6_finish yX6_finish, .initialized RX6, .code yX6_finish cX6_finish 1 (some .int), .fieldLink RX6 166 "SnapTable" "done" "I"] ++ wsX60 ++ wsX00 ++ wsX40)
def wsX6_putWalled_r1 : List Cond := [Cond.fieldLink RX6 12 "SnapTable" "widths" "LSnapTable$Axis;", Cond.fieldLink RX6 18 "SnapTable" "heights" "LSnapTable$Axis;", Cond.fieldLink RX6 172 "SnapTable" "met" "I", Cond.methodLink RX6 182 yX0_walled, Cond.instanceMethod yX0_walled, Cond.selects RX0 yX0_walled yX0_walled, Cond.initialized RX0, Cond.code yX0_walled cX0_walled 3 (some .long), Cond.fieldLink RX0 25 "SnapTable$Axis" "most" "J", Cond.fieldLink RX0 19 "SnapTable$Axis" "least" "J", Cond.methodLink RX0 37 yX1_lesser, Cond.static yX1_lesser, Cond.initialized RX1, Cond.code yX1_lesser cX1_lesser 4 (some .long), Cond.methodLink RX1 21 yX1_rank, Cond.static yX1_rank, Cond.code yX1_rank cX1_rank 2 (some .long), Cond.constantLong RX1 9 (9223372036854775807), Cond.methodLink RX0 41 yX1_greater, Cond.static yX1_greater, Cond.code yX1_greater cX1_greater 4 (some .long), Cond.methodLink RX6 54 yX1_isInfinite, Cond.static yX1_isInfinite, Cond.code yX1_isInfinite cX1_isInfinite 2 (some .boolean)]
def wsX6_putWalled_r2 : List Cond := [Cond.constantLong RX1 11 (9218868437227405312), Cond.methodLink RX6 46 yX6_refuse, Cond.instanceMethod yX6_refuse, Cond.selects RX6 yX6_refuse yX6_refuse, Cond.initialized RX6, Cond.code yX6_refuse cX6_refuse 2 (some .int), Cond.fieldLink RX6 169 "SnapTable" "refused" "I", Cond.methodLink RX6 102 yX6_put, Cond.instanceMethod yX6_put, Cond.selects RX6 yX6_put yX6_put, Cond.code yX6_put cX6_put 6 (some .int), Cond.fieldLink RX6 24 "SnapTable" "trail" "LSnapTable$Trail;", Cond.methodLink RX6 185 yX4_keep, Cond.instanceMethod yX4_keep, Cond.selects RX4 yX4_keep yX4_keep, Cond.initialized RX4, Cond.code yX4_keep cX4_keep 6 none, Cond.fieldLink RX4 9 "SnapTable$Trail" "points" "[I", Cond.fieldLink RX4 20 "SnapTable$Trail" "next" "I", Cond.fieldLink RX4 13 "SnapTable$Trail" "widths" "[J", Cond.fieldLink RX4 17 "SnapTable$Trail" "heights" "[J", Cond.fieldLink RX4 24 "SnapTable$Trail" "size" "I", Cond.methodLink RX6 72 yX6_finish, Cond.instanceMethod yX6_finish]
def wsX6_putWalled_r3 : List Cond := [Cond.selects RX6 yX6_finish yX6_finish, Cond.code yX6_finish cX6_finish 1 (some .int), Cond.fieldLink RX6 166 "SnapTable" "done" "I"]
def wsX6_putWalled : List Cond := .code yX6_putWalled cX6_putWalled 10 (some .int) :: ((wsX6_putWalled_r1 ++ (wsX6_putWalled_r2 ++ wsX6_putWalled_r3)) ++ wsX60 ++ wsX00 ++ wsX40)
def wsX6_place_r1 : List Cond := [Cond.methodLink RX6 36 yX3_widened, Cond.static yX3_widened, Cond.initialized RX3, Cond.code yX3_widened cX3_widened 4 (some .long), Cond.constantLong RX3 9 (-9223372036854775808), Cond.constant RX3 13 (2147483647), Cond.constant RX3 14 (2139095040), Cond.constantLong RX3 15 (9218868437227405312), Cond.constant RX3 17 (8388608), Cond.constantDouble RX3 18 (3936146074321813504), Cond.constantLong RX3 24 (4035225266123964416), Cond.methodLink RX3 20 yX1_ofSize, Cond.static yX1_ofSize, Cond.initialized RX1, Cond.code yX1_ofSize cX1_ofSize 5 (some .long), Cond.constantLong RX1 11 (9218868437227405312), Cond.constantDouble RX1 65 (4841369599423283200), Cond.methodLink RX1 39 yX2_beyondAll, Cond.static yX2_beyondAll, Cond.initialized RX2, Cond.code yX2_beyondAll cX2_beyondAll 0 (some .double), Cond.constantDouble RX2 27 (9218868437227405312), Cond.methodLink RX1 57 yX2_floorFromOne, Cond.static yX2_floorFromOne]
def wsX6_place_r2 : List Cond := [Cond.code yX2_floorFromOne cX2_floorFromOne 6 (some .int), Cond.methodLink RX2 31 yX2_leap, Cond.static yX2_leap, Cond.code yX2_leap cX2_leap 1 (some .double), Cond.constantDouble RX2 7 (4611686018427387904), Cond.constantDouble RX2 9 (4616189618054758400), Cond.constantDouble RX2 11 (4625196817309499392), Cond.constantDouble RX2 13 (4643211215818981376), Cond.constantDouble RX2 15 (4679240012837945344), Cond.constantDouble RX2 17 (4751297606875873280), Cond.constantDouble RX2 19 (4895412794951729152), Cond.constantDouble RX2 21 (5183643171103440896), Cond.constantDouble RX2 23 (5760103923406864384), Cond.constantDouble RX2 25 (6913025428013711360), Cond.methodLink RX1 61 yX2_floorBelowOne, Cond.static yX2_floorBelowOne, Cond.code yX2_floorBelowOne cX2_floorBelowOne 7 (some .int), Cond.methodLink RX1 49 yX2_scaled, Cond.static yX2_scaled, Cond.code yX2_scaled cX2_scaled 7 (some .double), Cond.methodLink RX6 42 yX6_isPoint, Cond.static yX6_isPoint, Cond.initialized RX6, Cond.code yX6_isPoint cX6_isPoint 1 (some .boolean)]
def wsX6_place_r3 : List Cond := [Cond.methodLink RX6 46 yX6_refuse, Cond.instanceMethod yX6_refuse, Cond.selects RX6 yX6_refuse yX6_refuse, Cond.code yX6_refuse cX6_refuse 2 (some .int), Cond.fieldLink RX6 169 "SnapTable" "refused" "I", Cond.methodLink RX6 50 yX1_isNone, Cond.static yX1_isNone, Cond.code yX1_isNone cX1_isNone 2 (some .boolean), Cond.constantLong RX1 9 (9223372036854775807), Cond.methodLink RX6 54 yX1_isInfinite, Cond.static yX1_isInfinite, Cond.code yX1_isInfinite cX1_isInfinite 2 (some .boolean), Cond.methodLink RX6 57 yX6_putWalled, Cond.instanceMethod yX6_putWalled, Cond.selects RX6 yX6_putWalled yX6_putWalled, Cond.code yX6_putWalled cX6_putWalled 10 (some .int), Cond.fieldLink RX6 12 "SnapTable" "widths" "LSnapTable$Axis;", Cond.fieldLink RX6 18 "SnapTable" "heights" "LSnapTable$Axis;", Cond.fieldLink RX6 172 "SnapTable" "met" "I", Cond.methodLink RX6 182 yX0_walled, Cond.instanceMethod yX0_walled, Cond.selects RX0 yX0_walled yX0_walled, Cond.initialized RX0, Cond.code yX0_walled cX0_walled 3 (some .long)]
def wsX6_place_r4 : List Cond := [Cond.fieldLink RX0 25 "SnapTable$Axis" "most" "J", Cond.fieldLink RX0 19 "SnapTable$Axis" "least" "J", Cond.methodLink RX0 37 yX1_lesser, Cond.static yX1_lesser, Cond.code yX1_lesser cX1_lesser 4 (some .long), Cond.methodLink RX1 21 yX1_rank, Cond.static yX1_rank, Cond.code yX1_rank cX1_rank 2 (some .long), Cond.methodLink RX0 41 yX1_greater, Cond.static yX1_greater, Cond.code yX1_greater cX1_greater 4 (some .long), Cond.methodLink RX6 102 yX6_put, Cond.instanceMethod yX6_put, Cond.selects RX6 yX6_put yX6_put, Cond.code yX6_put cX6_put 6 (some .int), Cond.fieldLink RX6 24 "SnapTable" "trail" "LSnapTable$Trail;", Cond.methodLink RX6 185 yX4_keep, Cond.instanceMethod yX4_keep, Cond.selects RX4 yX4_keep yX4_keep, Cond.initialized RX4, Cond.code yX4_keep cX4_keep 6 none, Cond.fieldLink RX4 9 "SnapTable$Trail" "points" "[I", Cond.fieldLink RX4 20 "SnapTable$Trail" "next" "I", Cond.fieldLink RX4 13 "SnapTable$Trail" "widths" "[J"]
def wsX6_place_r5 : List Cond := [Cond.fieldLink RX4 17 "SnapTable$Trail" "heights" "[J", Cond.fieldLink RX4 24 "SnapTable$Trail" "size" "I", Cond.methodLink RX6 72 yX6_finish, Cond.instanceMethod yX6_finish, Cond.selects RX6 yX6_finish yX6_finish, Cond.code yX6_finish cX6_finish 1 (some .int), Cond.fieldLink RX6 166 "SnapTable" "done" "I"]
def wsX6_place : List Cond := .code yX6_place cX6_place 7 (some .int) :: ((wsX6_place_r1 ++ (wsX6_place_r2 ++ (wsX6_place_r3 ++ (wsX6_place_r4 ++ wsX6_place_r5)))) ++ wsX60 ++ wsX00 ++ wsX40)
def wsX6_fence_r1 : List Cond := [Cond.fieldLink RX6 172 "SnapTable" "met" "I", Cond.fieldLink RX6 24 "SnapTable" "trail" "LSnapTable$Trail;", Cond.methodLink RX6 50 yX1_isNone, Cond.static yX1_isNone, Cond.initialized RX1, Cond.code yX1_isNone cX1_isNone 2 (some .boolean), Cond.constantLong RX1 9 (9223372036854775807), Cond.constantLong RX1 11 (9218868437227405312), Cond.methodLink RX6 46 yX6_refuse, Cond.instanceMethod yX6_refuse, Cond.selects RX6 yX6_refuse yX6_refuse, Cond.initialized RX6, Cond.code yX6_refuse cX6_refuse 2 (some .int), Cond.fieldLink RX6 169 "SnapTable" "refused" "I", Cond.methodLink RX6 109 yX1_value, Cond.static yX1_value, Cond.code yX1_value cX1_value 4 (some .double), Cond.methodLink RX1 31 yX1_valueOfSize, Cond.static yX1_valueOfSize, Cond.code yX1_valueOfSize cX1_valueOfSize 5 (some .double), Cond.constantLong RX1 45 (4503599627370495), Cond.constantDouble RX1 47 (4372995238176751616), Cond.methodLink RX1 35 yX1_isInfinite, Cond.static yX1_isInfinite]
def wsX6_fence_r2 : List Cond := [Cond.code yX1_isInfinite cX1_isInfinite 2 (some .boolean), Cond.methodLink RX1 39 yX2_beyondAll, Cond.static yX2_beyondAll, Cond.initialized RX2, Cond.code yX2_beyondAll cX2_beyondAll 0 (some .double), Cond.constantDouble RX2 27 (9218868437227405312), Cond.methodLink RX1 49 yX2_scaled, Cond.static yX2_scaled, Cond.code yX2_scaled cX2_scaled 7 (some .double), Cond.methodLink RX2 31 yX2_leap, Cond.static yX2_leap, Cond.code yX2_leap cX2_leap 1 (some .double), Cond.constantDouble RX2 7 (4611686018427387904), Cond.constantDouble RX2 9 (4616189618054758400), Cond.constantDouble RX2 11 (4625196817309499392), Cond.constantDouble RX2 13 (4643211215818981376), Cond.constantDouble RX2 15 (4679240012837945344), Cond.constantDouble RX2 17 (4751297606875873280), Cond.constantDouble RX2 19 (4895412794951729152), Cond.constantDouble RX2 21 (5183643171103440896), Cond.constantDouble RX2 23 (5760103923406864384), Cond.constantDouble RX2 25 (6913025428013711360), Cond.methodLink RX6 175 yX0_wallAll, Cond.instanceMethod yX0_wallAll]
def wsX6_fence_r3 : List Cond := [Cond.selects RX0 yX0_wallAll yX0_wallAll, Cond.initialized RX0, Cond.code yX0_wallAll cX0_wallAll 9 (some .int), Cond.fieldLink RX0 19 "SnapTable$Axis" "least" "J", Cond.fieldLink RX0 25 "SnapTable$Axis" "most" "J", Cond.fieldLink RX0 9 "SnapTable$Axis" "at" "[J", Cond.methodLink RX0 44 yX0_walled, Cond.instanceMethod yX0_walled, Cond.selects RX0 yX0_walled yX0_walled, Cond.code yX0_walled cX0_walled 3 (some .long), Cond.methodLink RX0 37 yX1_lesser, Cond.static yX1_lesser, Cond.code yX1_lesser cX1_lesser 4 (some .long), Cond.methodLink RX1 21 yX1_rank, Cond.static yX1_rank, Cond.code yX1_rank cX1_rank 2 (some .long), Cond.methodLink RX0 41 yX1_greater, Cond.static yX1_greater, Cond.code yX1_greater cX1_greater 4 (some .long), Cond.methodLink RX6 179 yX4_clear, Cond.instanceMethod yX4_clear, Cond.selects RX4 yX4_clear yX4_clear, Cond.initialized RX4, Cond.code yX4_clear cX4_clear 1 none]
def wsX6_fence_r4 : List Cond := [Cond.fieldLink RX4 24 "SnapTable$Trail" "size" "I", Cond.methodLink RX6 72 yX6_finish, Cond.instanceMethod yX6_finish, Cond.selects RX6 yX6_finish yX6_finish, Cond.code yX6_finish cX6_finish 1 (some .int), Cond.fieldLink RX6 166 "SnapTable" "done" "I"]
def wsX6_fence : List Cond := .code yX6_fence cX6_fence 6 (some .int) :: ((wsX6_fence_r1 ++ (wsX6_fence_r2 ++ (wsX6_fence_r3 ++ wsX6_fence_r4))) ++ wsX60 ++ wsX00 ++ wsX40)
def wsX6_walls_r1 : List Cond := [Cond.fieldLink RX6 12 "SnapTable" "widths" "LSnapTable$Axis;", Cond.methodLink RX6 61 yX6_fence, Cond.instanceMethod yX6_fence, Cond.selects RX6 yX6_fence yX6_fence, Cond.initialized RX6, Cond.code yX6_fence cX6_fence 6 (some .int), Cond.fieldLink RX6 172 "SnapTable" "met" "I", Cond.fieldLink RX6 24 "SnapTable" "trail" "LSnapTable$Trail;", Cond.methodLink RX6 50 yX1_isNone, Cond.static yX1_isNone, Cond.initialized RX1, Cond.code yX1_isNone cX1_isNone 2 (some .boolean), Cond.constantLong RX1 9 (9223372036854775807), Cond.constantLong RX1 11 (9218868437227405312), Cond.methodLink RX6 46 yX6_refuse, Cond.instanceMethod yX6_refuse, Cond.selects RX6 yX6_refuse yX6_refuse, Cond.code yX6_refuse cX6_refuse 2 (some .int), Cond.fieldLink RX6 169 "SnapTable" "refused" "I", Cond.methodLink RX6 109 yX1_value, Cond.static yX1_value, Cond.code yX1_value cX1_value 4 (some .double), Cond.methodLink RX1 31 yX1_valueOfSize, Cond.static yX1_valueOfSize]
def wsX6_walls_r2 : List Cond := [Cond.code yX1_valueOfSize cX1_valueOfSize 5 (some .double), Cond.constantLong RX1 45 (4503599627370495), Cond.constantDouble RX1 47 (4372995238176751616), Cond.methodLink RX1 35 yX1_isInfinite, Cond.static yX1_isInfinite, Cond.code yX1_isInfinite cX1_isInfinite 2 (some .boolean), Cond.methodLink RX1 39 yX2_beyondAll, Cond.static yX2_beyondAll, Cond.initialized RX2, Cond.code yX2_beyondAll cX2_beyondAll 0 (some .double), Cond.constantDouble RX2 27 (9218868437227405312), Cond.methodLink RX1 49 yX2_scaled, Cond.static yX2_scaled, Cond.code yX2_scaled cX2_scaled 7 (some .double), Cond.methodLink RX2 31 yX2_leap, Cond.static yX2_leap, Cond.code yX2_leap cX2_leap 1 (some .double), Cond.constantDouble RX2 7 (4611686018427387904), Cond.constantDouble RX2 9 (4616189618054758400), Cond.constantDouble RX2 11 (4625196817309499392), Cond.constantDouble RX2 13 (4643211215818981376), Cond.constantDouble RX2 15 (4679240012837945344), Cond.constantDouble RX2 17 (4751297606875873280), Cond.constantDouble RX2 19 (4895412794951729152)]
def wsX6_walls_r3 : List Cond := [Cond.constantDouble RX2 21 (5183643171103440896), Cond.constantDouble RX2 23 (5760103923406864384), Cond.constantDouble RX2 25 (6913025428013711360), Cond.methodLink RX6 175 yX0_wallAll, Cond.instanceMethod yX0_wallAll, Cond.selects RX0 yX0_wallAll yX0_wallAll, Cond.initialized RX0, Cond.code yX0_wallAll cX0_wallAll 9 (some .int), Cond.fieldLink RX0 19 "SnapTable$Axis" "least" "J", Cond.fieldLink RX0 25 "SnapTable$Axis" "most" "J", Cond.fieldLink RX0 9 "SnapTable$Axis" "at" "[J", Cond.methodLink RX0 44 yX0_walled, Cond.instanceMethod yX0_walled, Cond.selects RX0 yX0_walled yX0_walled, Cond.code yX0_walled cX0_walled 3 (some .long), Cond.methodLink RX0 37 yX1_lesser, Cond.static yX1_lesser, Cond.code yX1_lesser cX1_lesser 4 (some .long), Cond.methodLink RX1 21 yX1_rank, Cond.static yX1_rank, Cond.code yX1_rank cX1_rank 2 (some .long), Cond.methodLink RX0 41 yX1_greater, Cond.static yX1_greater, Cond.code yX1_greater cX1_greater 4 (some .long)]
def wsX6_walls_r4 : List Cond := [Cond.methodLink RX6 179 yX4_clear, Cond.instanceMethod yX4_clear, Cond.selects RX4 yX4_clear yX4_clear, Cond.initialized RX4, Cond.code yX4_clear cX4_clear 1 none, Cond.fieldLink RX4 24 "SnapTable$Trail" "size" "I", Cond.methodLink RX6 72 yX6_finish, Cond.instanceMethod yX6_finish, Cond.selects RX6 yX6_finish yX6_finish, Cond.code yX6_finish cX6_finish 1 (some .int), Cond.fieldLink RX6 166 "SnapTable" "done" "I"]
def wsX6_walls : List Cond := .code yX6_walls cX6_walls 5 (some .int) :: ((wsX6_walls_r1 ++ (wsX6_walls_r2 ++ (wsX6_walls_r3 ++ wsX6_walls_r4))) ++ wsX60 ++ wsX00 ++ wsX40)
def wsX6_rails_r1 : List Cond := [Cond.fieldLink RX6 18 "SnapTable" "heights" "LSnapTable$Axis;", Cond.methodLink RX6 36 yX3_widened, Cond.static yX3_widened, Cond.initialized RX3, Cond.code yX3_widened cX3_widened 4 (some .long), Cond.constantLong RX3 9 (-9223372036854775808), Cond.constant RX3 13 (2147483647), Cond.constant RX3 14 (2139095040), Cond.constantLong RX3 15 (9218868437227405312), Cond.constant RX3 17 (8388608), Cond.constantDouble RX3 18 (3936146074321813504), Cond.constantLong RX3 24 (4035225266123964416), Cond.methodLink RX3 20 yX1_ofSize, Cond.static yX1_ofSize, Cond.initialized RX1, Cond.code yX1_ofSize cX1_ofSize 5 (some .long), Cond.constantLong RX1 11 (9218868437227405312), Cond.constantDouble RX1 65 (4841369599423283200), Cond.methodLink RX1 39 yX2_beyondAll, Cond.static yX2_beyondAll, Cond.initialized RX2, Cond.code yX2_beyondAll cX2_beyondAll 0 (some .double), Cond.constantDouble RX2 27 (9218868437227405312), Cond.methodLink RX1 57 yX2_floorFromOne]
def wsX6_rails_r2 : List Cond := [Cond.static yX2_floorFromOne, Cond.code yX2_floorFromOne cX2_floorFromOne 6 (some .int), Cond.methodLink RX2 31 yX2_leap, Cond.static yX2_leap, Cond.code yX2_leap cX2_leap 1 (some .double), Cond.constantDouble RX2 7 (4611686018427387904), Cond.constantDouble RX2 9 (4616189618054758400), Cond.constantDouble RX2 11 (4625196817309499392), Cond.constantDouble RX2 13 (4643211215818981376), Cond.constantDouble RX2 15 (4679240012837945344), Cond.constantDouble RX2 17 (4751297606875873280), Cond.constantDouble RX2 19 (4895412794951729152), Cond.constantDouble RX2 21 (5183643171103440896), Cond.constantDouble RX2 23 (5760103923406864384), Cond.constantDouble RX2 25 (6913025428013711360), Cond.methodLink RX1 61 yX2_floorBelowOne, Cond.static yX2_floorBelowOne, Cond.code yX2_floorBelowOne cX2_floorBelowOne 7 (some .int), Cond.methodLink RX1 49 yX2_scaled, Cond.static yX2_scaled, Cond.code yX2_scaled cX2_scaled 7 (some .double), Cond.methodLink RX6 61 yX6_fence, Cond.instanceMethod yX6_fence, Cond.selects RX6 yX6_fence yX6_fence]
def wsX6_rails_r3 : List Cond := [Cond.initialized RX6, Cond.code yX6_fence cX6_fence 6 (some .int), Cond.fieldLink RX6 172 "SnapTable" "met" "I", Cond.fieldLink RX6 24 "SnapTable" "trail" "LSnapTable$Trail;", Cond.methodLink RX6 50 yX1_isNone, Cond.static yX1_isNone, Cond.code yX1_isNone cX1_isNone 2 (some .boolean), Cond.constantLong RX1 9 (9223372036854775807), Cond.methodLink RX6 46 yX6_refuse, Cond.instanceMethod yX6_refuse, Cond.selects RX6 yX6_refuse yX6_refuse, Cond.code yX6_refuse cX6_refuse 2 (some .int), Cond.fieldLink RX6 169 "SnapTable" "refused" "I", Cond.methodLink RX6 109 yX1_value, Cond.static yX1_value, Cond.code yX1_value cX1_value 4 (some .double), Cond.methodLink RX1 31 yX1_valueOfSize, Cond.static yX1_valueOfSize, Cond.code yX1_valueOfSize cX1_valueOfSize 5 (some .double), Cond.constantLong RX1 45 (4503599627370495), Cond.constantDouble RX1 47 (4372995238176751616), Cond.methodLink RX1 35 yX1_isInfinite, Cond.static yX1_isInfinite, Cond.code yX1_isInfinite cX1_isInfinite 2 (some .boolean)]
def wsX6_rails_r4 : List Cond := [Cond.methodLink RX6 175 yX0_wallAll, Cond.instanceMethod yX0_wallAll, Cond.selects RX0 yX0_wallAll yX0_wallAll, Cond.initialized RX0, Cond.code yX0_wallAll cX0_wallAll 9 (some .int), Cond.fieldLink RX0 19 "SnapTable$Axis" "least" "J", Cond.fieldLink RX0 25 "SnapTable$Axis" "most" "J", Cond.fieldLink RX0 9 "SnapTable$Axis" "at" "[J", Cond.methodLink RX0 44 yX0_walled, Cond.instanceMethod yX0_walled, Cond.selects RX0 yX0_walled yX0_walled, Cond.code yX0_walled cX0_walled 3 (some .long), Cond.methodLink RX0 37 yX1_lesser, Cond.static yX1_lesser, Cond.code yX1_lesser cX1_lesser 4 (some .long), Cond.methodLink RX1 21 yX1_rank, Cond.static yX1_rank, Cond.code yX1_rank cX1_rank 2 (some .long), Cond.methodLink RX0 41 yX1_greater, Cond.static yX1_greater, Cond.code yX1_greater cX1_greater 4 (some .long), Cond.methodLink RX6 179 yX4_clear, Cond.instanceMethod yX4_clear, Cond.selects RX4 yX4_clear yX4_clear]
def wsX6_rails_r5 : List Cond := [Cond.initialized RX4, Cond.code yX4_clear cX4_clear 1 none, Cond.fieldLink RX4 24 "SnapTable$Trail" "size" "I", Cond.methodLink RX6 72 yX6_finish, Cond.instanceMethod yX6_finish, Cond.selects RX6 yX6_finish yX6_finish, Cond.code yX6_finish cX6_finish 1 (some .int), Cond.fieldLink RX6 166 "SnapTable" "done" "I"]
def wsX6_rails : List Cond := .code yX6_rails cX6_rails 3 (some .int) :: ((wsX6_rails_r1 ++ (wsX6_rails_r2 ++ (wsX6_rails_r3 ++ (wsX6_rails_r4 ++ wsX6_rails_r5)))) ++ wsX60 ++ wsX00 ++ wsX40)
def wsX6_steps_r1 : List Cond := [Cond.fieldLink RX6 12 "SnapTable" "widths" "LSnapTable$Axis;", Cond.fieldLink RX6 18 "SnapTable" "heights" "LSnapTable$Axis;", Cond.methodLink RX6 36 yX3_widened, Cond.static yX3_widened, Cond.initialized RX3, Cond.code yX3_widened cX3_widened 4 (some .long), Cond.constantLong RX3 9 (-9223372036854775808), Cond.constant RX3 13 (2147483647), Cond.constant RX3 14 (2139095040), Cond.constantLong RX3 15 (9218868437227405312), Cond.constant RX3 17 (8388608), Cond.constantDouble RX3 18 (3936146074321813504), Cond.constantLong RX3 24 (4035225266123964416), Cond.methodLink RX3 20 yX1_ofSize, Cond.static yX1_ofSize, Cond.initialized RX1, Cond.code yX1_ofSize cX1_ofSize 5 (some .long), Cond.constantLong RX1 11 (9218868437227405312), Cond.constantDouble RX1 65 (4841369599423283200), Cond.methodLink RX1 39 yX2_beyondAll, Cond.static yX2_beyondAll, Cond.initialized RX2, Cond.code yX2_beyondAll cX2_beyondAll 0 (some .double), Cond.constantDouble RX2 27 (9218868437227405312)]
def wsX6_steps_r2 : List Cond := [Cond.methodLink RX1 57 yX2_floorFromOne, Cond.static yX2_floorFromOne, Cond.code yX2_floorFromOne cX2_floorFromOne 6 (some .int), Cond.methodLink RX2 31 yX2_leap, Cond.static yX2_leap, Cond.code yX2_leap cX2_leap 1 (some .double), Cond.constantDouble RX2 7 (4611686018427387904), Cond.constantDouble RX2 9 (4616189618054758400), Cond.constantDouble RX2 11 (4625196817309499392), Cond.constantDouble RX2 13 (4643211215818981376), Cond.constantDouble RX2 15 (4679240012837945344), Cond.constantDouble RX2 17 (4751297606875873280), Cond.constantDouble RX2 19 (4895412794951729152), Cond.constantDouble RX2 21 (5183643171103440896), Cond.constantDouble RX2 23 (5760103923406864384), Cond.constantDouble RX2 25 (6913025428013711360), Cond.methodLink RX1 61 yX2_floorBelowOne, Cond.static yX2_floorBelowOne, Cond.code yX2_floorBelowOne cX2_floorBelowOne 7 (some .int), Cond.methodLink RX1 49 yX2_scaled, Cond.static yX2_scaled, Cond.code yX2_scaled cX2_scaled 7 (some .double), Cond.methodLink RX6 50 yX1_isNone, Cond.static yX1_isNone]
def wsX6_steps_r3 : List Cond := [Cond.code yX1_isNone cX1_isNone 2 (some .boolean), Cond.constantLong RX1 9 (9223372036854775807), Cond.methodLink RX6 46 yX6_refuse, Cond.instanceMethod yX6_refuse, Cond.selects RX6 yX6_refuse yX6_refuse, Cond.initialized RX6, Cond.code yX6_refuse cX6_refuse 2 (some .int), Cond.fieldLink RX6 169 "SnapTable" "refused" "I", Cond.methodLink RX6 54 yX1_isInfinite, Cond.static yX1_isInfinite, Cond.code yX1_isInfinite cX1_isInfinite 2 (some .boolean), Cond.methodLink RX6 65 yX1_isAboveZero, Cond.static yX1_isAboveZero, Cond.code yX1_isAboveZero cX1_isAboveZero 2 (some .boolean), Cond.methodLink RX6 72 yX6_finish, Cond.instanceMethod yX6_finish, Cond.selects RX6 yX6_finish yX6_finish, Cond.code yX6_finish cX6_finish 1 (some .int), Cond.fieldLink RX6 166 "SnapTable" "done" "I"]
def wsX6_steps : List Cond := .code yX6_steps cX6_steps 6 (some .int) :: ((wsX6_steps_r1 ++ (wsX6_steps_r2 ++ wsX6_steps_r3)) ++ wsX60 ++ wsX00)
def wsX6_move_r1 : List Cond := [Cond.fieldLink RX6 12 "SnapTable" "widths" "LSnapTable$Axis;", Cond.fieldLink RX6 18 "SnapTable" "heights" "LSnapTable$Axis;", Cond.methodLink RX6 36 yX3_widened, Cond.static yX3_widened, Cond.initialized RX3, Cond.code yX3_widened cX3_widened 4 (some .long), Cond.constantLong RX3 9 (-9223372036854775808), Cond.constant RX3 13 (2147483647), Cond.constant RX3 14 (2139095040), Cond.constantLong RX3 15 (9218868437227405312), Cond.constant RX3 17 (8388608), Cond.constantDouble RX3 18 (3936146074321813504), Cond.constantLong RX3 24 (4035225266123964416), Cond.methodLink RX3 20 yX1_ofSize, Cond.static yX1_ofSize, Cond.initialized RX1, Cond.code yX1_ofSize cX1_ofSize 5 (some .long), Cond.constantLong RX1 11 (9218868437227405312), Cond.constantDouble RX1 65 (4841369599423283200), Cond.methodLink RX1 39 yX2_beyondAll, Cond.static yX2_beyondAll, Cond.initialized RX2, Cond.code yX2_beyondAll cX2_beyondAll 0 (some .double), Cond.constantDouble RX2 27 (9218868437227405312)]
def wsX6_move_r2 : List Cond := [Cond.methodLink RX1 57 yX2_floorFromOne, Cond.static yX2_floorFromOne, Cond.code yX2_floorFromOne cX2_floorFromOne 6 (some .int), Cond.methodLink RX2 31 yX2_leap, Cond.static yX2_leap, Cond.code yX2_leap cX2_leap 1 (some .double), Cond.constantDouble RX2 7 (4611686018427387904), Cond.constantDouble RX2 9 (4616189618054758400), Cond.constantDouble RX2 11 (4625196817309499392), Cond.constantDouble RX2 13 (4643211215818981376), Cond.constantDouble RX2 15 (4679240012837945344), Cond.constantDouble RX2 17 (4751297606875873280), Cond.constantDouble RX2 19 (4895412794951729152), Cond.constantDouble RX2 21 (5183643171103440896), Cond.constantDouble RX2 23 (5760103923406864384), Cond.constantDouble RX2 25 (6913025428013711360), Cond.methodLink RX1 61 yX2_floorBelowOne, Cond.static yX2_floorBelowOne, Cond.code yX2_floorBelowOne cX2_floorBelowOne 7 (some .int), Cond.methodLink RX1 49 yX2_scaled, Cond.static yX2_scaled, Cond.code yX2_scaled cX2_scaled 7 (some .double), Cond.methodLink RX6 42 yX6_isPoint, Cond.static yX6_isPoint]
def wsX6_move_r3 : List Cond := [Cond.initialized RX6, Cond.code yX6_isPoint cX6_isPoint 1 (some .boolean), Cond.methodLink RX6 46 yX6_refuse, Cond.instanceMethod yX6_refuse, Cond.selects RX6 yX6_refuse yX6_refuse, Cond.code yX6_refuse cX6_refuse 2 (some .int), Cond.fieldLink RX6 169 "SnapTable" "refused" "I", Cond.methodLink RX6 50 yX1_isNone, Cond.static yX1_isNone, Cond.code yX1_isNone cX1_isNone 2 (some .boolean), Cond.constantLong RX1 9 (9223372036854775807), Cond.methodLink RX6 79 yX0_sum, Cond.instanceMethod yX0_sum, Cond.selects RX0 yX0_sum yX0_sum, Cond.initialized RX0, Cond.code yX0_sum cX0_sum 11 (some .long), Cond.fieldLink RX0 33 "SnapTable$Axis" "slim" "Z", Cond.constantLong RX0 52 (-9223372036854775808), Cond.methodLink RX0 48 yX1_value, Cond.static yX1_value, Cond.code yX1_value cX1_value 4 (some .double), Cond.methodLink RX1 31 yX1_valueOfSize, Cond.static yX1_valueOfSize, Cond.code yX1_valueOfSize cX1_valueOfSize 5 (some .double)]
def wsX6_move_r4 : List Cond := [Cond.constantLong RX1 45 (4503599627370495), Cond.constantDouble RX1 47 (4372995238176751616), Cond.methodLink RX1 35 yX1_isInfinite, Cond.static yX1_isInfinite, Cond.code yX1_isInfinite cX1_isInfinite 2 (some .boolean), Cond.methodLink RX0 54 yX1_of, Cond.static yX1_of, Cond.code yX1_of cX1_of 2 (some .long), Cond.constantLong RX1 13 (-9223372036854775808), Cond.methodLink RX1 53 yX1_ofSize, Cond.methodLink RX6 57 yX6_putWalled, Cond.instanceMethod yX6_putWalled, Cond.selects RX6 yX6_putWalled yX6_putWalled, Cond.code yX6_putWalled cX6_putWalled 10 (some .int), Cond.fieldLink RX6 172 "SnapTable" "met" "I", Cond.methodLink RX6 182 yX0_walled, Cond.instanceMethod yX0_walled, Cond.selects RX0 yX0_walled yX0_walled, Cond.code yX0_walled cX0_walled 3 (some .long), Cond.fieldLink RX0 25 "SnapTable$Axis" "most" "J", Cond.fieldLink RX0 19 "SnapTable$Axis" "least" "J", Cond.methodLink RX0 37 yX1_lesser, Cond.static yX1_lesser, Cond.code yX1_lesser cX1_lesser 4 (some .long)]
def wsX6_move_r5 : List Cond := [Cond.methodLink RX1 21 yX1_rank, Cond.static yX1_rank, Cond.code yX1_rank cX1_rank 2 (some .long), Cond.methodLink RX0 41 yX1_greater, Cond.static yX1_greater, Cond.code yX1_greater cX1_greater 4 (some .long), Cond.methodLink RX6 54 yX1_isInfinite, Cond.methodLink RX6 102 yX6_put, Cond.instanceMethod yX6_put, Cond.selects RX6 yX6_put yX6_put, Cond.code yX6_put cX6_put 6 (some .int), Cond.fieldLink RX6 24 "SnapTable" "trail" "LSnapTable$Trail;", Cond.methodLink RX6 185 yX4_keep, Cond.instanceMethod yX4_keep, Cond.selects RX4 yX4_keep yX4_keep, Cond.initialized RX4, Cond.code yX4_keep cX4_keep 6 none, Cond.fieldLink RX4 9 "SnapTable$Trail" "points" "[I", Cond.fieldLink RX4 20 "SnapTable$Trail" "next" "I", Cond.fieldLink RX4 13 "SnapTable$Trail" "widths" "[J", Cond.fieldLink RX4 17 "SnapTable$Trail" "heights" "[J", Cond.fieldLink RX4 24 "SnapTable$Trail" "size" "I", Cond.methodLink RX6 72 yX6_finish, Cond.instanceMethod yX6_finish]
def wsX6_move_r6 : List Cond := [Cond.selects RX6 yX6_finish yX6_finish, Cond.code yX6_finish cX6_finish 1 (some .int), Cond.fieldLink RX6 166 "SnapTable" "done" "I"]
def wsX6_move : List Cond := .code yX6_move cX6_move 7 (some .int) :: ((wsX6_move_r1 ++ (wsX6_move_r2 ++ (wsX6_move_r3 ++ (wsX6_move_r4 ++ (wsX6_move_r5 ++ wsX6_move_r6))))) ++ wsX60 ++ wsX00 ++ wsX40)
def wsX6_snap_r1 : List Cond := [Cond.fieldLink RX6 12 "SnapTable" "widths" "LSnapTable$Axis;", Cond.fieldLink RX6 18 "SnapTable" "heights" "LSnapTable$Axis;", Cond.methodLink RX6 42 yX6_isPoint, Cond.static yX6_isPoint, Cond.initialized RX6, Cond.code yX6_isPoint cX6_isPoint 1 (some .boolean), Cond.methodLink RX6 83 yX5_isWay, Cond.static yX5_isWay, Cond.initialized RX5, Cond.code yX5_isWay cX5_isWay 1 (some .boolean), Cond.methodLink RX6 46 yX6_refuse, Cond.instanceMethod yX6_refuse, Cond.selects RX6 yX6_refuse yX6_refuse, Cond.code yX6_refuse cX6_refuse 2 (some .int), Cond.fieldLink RX6 169 "SnapTable" "refused" "I", Cond.methodLink RX6 88 yX0_snapped, Cond.instanceMethod yX0_snapped, Cond.selects RX0 yX0_snapped yX0_snapped, Cond.initialized RX0, Cond.code yX0_snapped cX0_snapped 10 (some .long), Cond.fieldLink RX0 30 "SnapTable$Axis" "step" "J", Cond.fieldLink RX0 33 "SnapTable$Axis" "slim" "Z", Cond.methodLink RX0 73 yX0_wholeSteps, Cond.instanceMethod yX0_wholeSteps]
def wsX6_snap_r2 : List Cond := [Cond.selects RX0 yX0_wholeSteps yX0_wholeSteps, Cond.code yX0_wholeSteps cX0_wholeSteps 10 (some .long), Cond.methodLink RX0 58 yX1_valueOfSize, Cond.static yX1_valueOfSize, Cond.initialized RX1, Cond.code yX1_valueOfSize cX1_valueOfSize 5 (some .double), Cond.constantLong RX1 9 (9223372036854775807), Cond.constantLong RX1 45 (4503599627370495), Cond.constantDouble RX1 47 (4372995238176751616), Cond.methodLink RX1 35 yX1_isInfinite, Cond.static yX1_isInfinite, Cond.code yX1_isInfinite cX1_isInfinite 2 (some .boolean), Cond.constantLong RX1 11 (9218868437227405312), Cond.methodLink RX1 39 yX2_beyondAll, Cond.static yX2_beyondAll, Cond.initialized RX2, Cond.code yX2_beyondAll cX2_beyondAll 0 (some .double), Cond.constantDouble RX2 27 (9218868437227405312), Cond.methodLink RX1 49 yX2_scaled, Cond.static yX2_scaled, Cond.code yX2_scaled cX2_scaled 7 (some .double), Cond.methodLink RX2 31 yX2_leap, Cond.static yX2_leap, Cond.code yX2_leap cX2_leap 1 (some .double)]
def wsX6_snap_r3 : List Cond := [Cond.constantDouble RX2 7 (4611686018427387904), Cond.constantDouble RX2 9 (4616189618054758400), Cond.constantDouble RX2 11 (4625196817309499392), Cond.constantDouble RX2 13 (4643211215818981376), Cond.constantDouble RX2 15 (4679240012837945344), Cond.constantDouble RX2 17 (4751297606875873280), Cond.constantDouble RX2 19 (4895412794951729152), Cond.constantDouble RX2 21 (5183643171103440896), Cond.constantDouble RX2 23 (5760103923406864384), Cond.constantDouble RX2 25 (6913025428013711360), Cond.methodLink RX0 61 yX1_ofSize, Cond.static yX1_ofSize, Cond.code yX1_ofSize cX1_ofSize 5 (some .long), Cond.constantDouble RX1 65 (4841369599423283200), Cond.methodLink RX1 57 yX2_floorFromOne, Cond.static yX2_floorFromOne, Cond.code yX2_floorFromOne cX2_floorFromOne 6 (some .int), Cond.methodLink RX1 61 yX2_floorBelowOne, Cond.static yX2_floorBelowOne, Cond.code yX2_floorBelowOne cX2_floorBelowOne 7 (some .int), Cond.methodLink RX0 64 yX1_withSignOf, Cond.static yX1_withSignOf, Cond.code yX1_withSignOf cX1_withSignOf 4 (some .long), Cond.constantLong RX1 13 (-9223372036854775808)]
def wsX6_snap_r4 : List Cond := [Cond.methodLink RX0 67 yX5_whole, Cond.static yX5_whole, Cond.code yX5_whole cX5_whole 8 (some .long), Cond.constantLong RX5 11 (9223372036854775807), Cond.constantLong RX5 13 (4841369599423283200), Cond.constantLong RX5 19 (2), Cond.methodLink RX5 15 yX1_valueOfSize, Cond.methodLink RX5 21 yX5_growsInSize, Cond.static yX5_growsInSize, Cond.code yX5_growsInSize cX5_growsInSize 5 (some .boolean), Cond.constantDouble RX5 33 (4602678819172646912), Cond.methodLink RX5 25 yX1_ofSize, Cond.methodLink RX5 29 yX1_withSignOf, Cond.methodLink RX6 57 yX6_putWalled, Cond.instanceMethod yX6_putWalled, Cond.selects RX6 yX6_putWalled yX6_putWalled, Cond.code yX6_putWalled cX6_putWalled 10 (some .int), Cond.fieldLink RX6 172 "SnapTable" "met" "I", Cond.methodLink RX6 182 yX0_walled, Cond.instanceMethod yX0_walled, Cond.selects RX0 yX0_walled yX0_walled, Cond.code yX0_walled cX0_walled 3 (some .long), Cond.fieldLink RX0 25 "SnapTable$Axis" "most" "J", Cond.fieldLink RX0 19 "SnapTable$Axis" "least" "J"]
def wsX6_snap_r5 : List Cond := [Cond.methodLink RX0 37 yX1_lesser, Cond.static yX1_lesser, Cond.code yX1_lesser cX1_lesser 4 (some .long), Cond.methodLink RX1 21 yX1_rank, Cond.static yX1_rank, Cond.code yX1_rank cX1_rank 2 (some .long), Cond.methodLink RX0 41 yX1_greater, Cond.static yX1_greater, Cond.code yX1_greater cX1_greater 4 (some .long), Cond.methodLink RX6 54 yX1_isInfinite, Cond.methodLink RX6 102 yX6_put, Cond.instanceMethod yX6_put, Cond.selects RX6 yX6_put yX6_put, Cond.code yX6_put cX6_put 6 (some .int), Cond.fieldLink RX6 24 "SnapTable" "trail" "LSnapTable$Trail;", Cond.methodLink RX6 185 yX4_keep, Cond.instanceMethod yX4_keep, Cond.selects RX4 yX4_keep yX4_keep, Cond.initialized RX4, Cond.code yX4_keep cX4_keep 6 none, Cond.fieldLink RX4 9 "SnapTable$Trail" "points" "[I", Cond.fieldLink RX4 20 "SnapTable$Trail" "next" "I", Cond.fieldLink RX4 13 "SnapTable$Trail" "widths" "[J", Cond.fieldLink RX4 17 "SnapTable$Trail" "heights" "[J"]
def wsX6_snap_r6 : List Cond := [Cond.fieldLink RX4 24 "SnapTable$Trail" "size" "I", Cond.methodLink RX6 72 yX6_finish, Cond.instanceMethod yX6_finish, Cond.selects RX6 yX6_finish yX6_finish, Cond.code yX6_finish cX6_finish 1 (some .int), Cond.fieldLink RX6 166 "SnapTable" "done" "I"]
def wsX6_snap : List Cond := .code yX6_snap cX6_snap 3 (some .int) :: ((wsX6_snap_r1 ++ (wsX6_snap_r2 ++ (wsX6_snap_r3 ++ (wsX6_snap_r4 ++ (wsX6_snap_r5 ++ wsX6_snap_r6))))) ++ wsX60 ++ wsX00 ++ wsX40)
def wsX6_lean_r1 : List Cond := [Cond.fieldLink RX6 12 "SnapTable" "widths" "LSnapTable$Axis;", Cond.fieldLink RX6 18 "SnapTable" "heights" "LSnapTable$Axis;", Cond.methodLink RX6 42 yX6_isPoint, Cond.static yX6_isPoint, Cond.initialized RX6, Cond.code yX6_isPoint cX6_isPoint 1 (some .boolean), Cond.methodLink RX6 46 yX6_refuse, Cond.instanceMethod yX6_refuse, Cond.selects RX6 yX6_refuse yX6_refuse, Cond.code yX6_refuse cX6_refuse 2 (some .int), Cond.fieldLink RX6 169 "SnapTable" "refused" "I", Cond.methodLink RX6 92 yX1_withSignOf, Cond.static yX1_withSignOf, Cond.initialized RX1, Cond.code yX1_withSignOf cX1_withSignOf 4 (some .long), Cond.constantLong RX1 9 (9223372036854775807), Cond.constantLong RX1 13 (-9223372036854775808), Cond.methodLink RX6 57 yX6_putWalled, Cond.instanceMethod yX6_putWalled, Cond.selects RX6 yX6_putWalled yX6_putWalled, Cond.code yX6_putWalled cX6_putWalled 10 (some .int), Cond.fieldLink RX6 172 "SnapTable" "met" "I", Cond.methodLink RX6 182 yX0_walled, Cond.instanceMethod yX0_walled]
def wsX6_lean_r2 : List Cond := [Cond.selects RX0 yX0_walled yX0_walled, Cond.initialized RX0, Cond.code yX0_walled cX0_walled 3 (some .long), Cond.fieldLink RX0 25 "SnapTable$Axis" "most" "J", Cond.fieldLink RX0 19 "SnapTable$Axis" "least" "J", Cond.methodLink RX0 37 yX1_lesser, Cond.static yX1_lesser, Cond.code yX1_lesser cX1_lesser 4 (some .long), Cond.methodLink RX1 21 yX1_rank, Cond.static yX1_rank, Cond.code yX1_rank cX1_rank 2 (some .long), Cond.methodLink RX0 41 yX1_greater, Cond.static yX1_greater, Cond.code yX1_greater cX1_greater 4 (some .long), Cond.methodLink RX6 54 yX1_isInfinite, Cond.static yX1_isInfinite, Cond.code yX1_isInfinite cX1_isInfinite 2 (some .boolean), Cond.constantLong RX1 11 (9218868437227405312), Cond.methodLink RX6 102 yX6_put, Cond.instanceMethod yX6_put, Cond.selects RX6 yX6_put yX6_put, Cond.code yX6_put cX6_put 6 (some .int), Cond.fieldLink RX6 24 "SnapTable" "trail" "LSnapTable$Trail;", Cond.methodLink RX6 185 yX4_keep]
def wsX6_lean_r3 : List Cond := [Cond.instanceMethod yX4_keep, Cond.selects RX4 yX4_keep yX4_keep, Cond.initialized RX4, Cond.code yX4_keep cX4_keep 6 none, Cond.fieldLink RX4 9 "SnapTable$Trail" "points" "[I", Cond.fieldLink RX4 20 "SnapTable$Trail" "next" "I", Cond.fieldLink RX4 13 "SnapTable$Trail" "widths" "[J", Cond.fieldLink RX4 17 "SnapTable$Trail" "heights" "[J", Cond.fieldLink RX4 24 "SnapTable$Trail" "size" "I", Cond.methodLink RX6 72 yX6_finish, Cond.instanceMethod yX6_finish, Cond.selects RX6 yX6_finish yX6_finish, Cond.code yX6_finish cX6_finish 1 (some .int), Cond.fieldLink RX6 166 "SnapTable" "done" "I"]
def wsX6_lean : List Cond := .code yX6_lean cX6_lean 3 (some .int) :: ((wsX6_lean_r1 ++ (wsX6_lean_r2 ++ wsX6_lean_r3)) ++ wsX60 ++ wsX00 ++ wsX40)
def wsX6_isEnd : List Cond := .code yX6_isEnd cX6_isEnd 1 (some .boolean) :: ([])
def wsX6_pull_r1 : List Cond := [Cond.fieldLink RX6 12 "SnapTable" "widths" "LSnapTable$Axis;", Cond.fieldLink RX6 18 "SnapTable" "heights" "LSnapTable$Axis;", Cond.methodLink RX6 42 yX6_isPoint, Cond.static yX6_isPoint, Cond.initialized RX6, Cond.code yX6_isPoint cX6_isPoint 1 (some .boolean), Cond.methodLink RX6 95 yX6_isEnd, Cond.static yX6_isEnd, Cond.code yX6_isEnd cX6_isEnd 1 (some .boolean), Cond.methodLink RX6 46 yX6_refuse, Cond.instanceMethod yX6_refuse, Cond.selects RX6 yX6_refuse yX6_refuse, Cond.code yX6_refuse cX6_refuse 2 (some .int), Cond.fieldLink RX6 169 "SnapTable" "refused" "I", Cond.methodLink RX6 98 yX1_outer, Cond.static yX1_outer, Cond.initialized RX1, Cond.code yX1_outer cX1_outer 5 (some .long), Cond.methodLink RX1 25 yX1_greater, Cond.static yX1_greater, Cond.code yX1_greater cX1_greater 4 (some .long), Cond.methodLink RX1 21 yX1_rank, Cond.static yX1_rank, Cond.code yX1_rank cX1_rank 2 (some .long)]
def wsX6_pull_r2 : List Cond := [Cond.constantLong RX1 9 (9223372036854775807), Cond.methodLink RX1 28 yX1_lesser, Cond.static yX1_lesser, Cond.code yX1_lesser cX1_lesser 4 (some .long), Cond.methodLink RX6 102 yX6_put, Cond.instanceMethod yX6_put, Cond.selects RX6 yX6_put yX6_put, Cond.code yX6_put cX6_put 6 (some .int), Cond.fieldLink RX6 24 "SnapTable" "trail" "LSnapTable$Trail;", Cond.methodLink RX6 185 yX4_keep, Cond.instanceMethod yX4_keep, Cond.selects RX4 yX4_keep yX4_keep, Cond.initialized RX4, Cond.code yX4_keep cX4_keep 6 none, Cond.fieldLink RX4 9 "SnapTable$Trail" "points" "[I", Cond.fieldLink RX4 20 "SnapTable$Trail" "next" "I", Cond.fieldLink RX4 13 "SnapTable$Trail" "widths" "[J", Cond.fieldLink RX4 17 "SnapTable$Trail" "heights" "[J", Cond.fieldLink RX4 24 "SnapTable$Trail" "size" "I", Cond.methodLink RX6 72 yX6_finish, Cond.instanceMethod yX6_finish, Cond.selects RX6 yX6_finish yX6_finish, Cond.code yX6_finish cX6_finish 1 (some .int), Cond.fieldLink RX6 166 "SnapTable" "done" "I"]
def wsX6_pull : List Cond := .code yX6_pull cX6_pull 4 (some .int) :: ((wsX6_pull_r1 ++ wsX6_pull_r2) ++ wsX60 ++ wsX00 ++ wsX40)
def wsX6_swing_r1 : List Cond := [Cond.fieldLink RX6 12 "SnapTable" "widths" "LSnapTable$Axis;", Cond.fieldLink RX6 18 "SnapTable" "heights" "LSnapTable$Axis;", Cond.methodLink RX6 42 yX6_isPoint, Cond.static yX6_isPoint, Cond.initialized RX6, Cond.code yX6_isPoint cX6_isPoint 1 (some .boolean), Cond.methodLink RX6 46 yX6_refuse, Cond.instanceMethod yX6_refuse, Cond.selects RX6 yX6_refuse yX6_refuse, Cond.code yX6_refuse cX6_refuse 2 (some .int), Cond.fieldLink RX6 169 "SnapTable" "refused" "I", Cond.methodLink RX6 50 yX1_isNone, Cond.static yX1_isNone, Cond.initialized RX1, Cond.code yX1_isNone cX1_isNone 2 (some .boolean), Cond.constantLong RX1 9 (9223372036854775807), Cond.constantLong RX1 11 (9218868437227405312), Cond.methodLink RX6 54 yX1_isInfinite, Cond.static yX1_isInfinite, Cond.code yX1_isInfinite cX1_isInfinite 2 (some .boolean), Cond.methodLink RX6 79 yX0_sum, Cond.instanceMethod yX0_sum, Cond.selects RX0 yX0_sum yX0_sum, Cond.initialized RX0]
def wsX6_swing_r2 : List Cond := [Cond.code yX0_sum cX0_sum 11 (some .long), Cond.fieldLink RX0 33 "SnapTable$Axis" "slim" "Z", Cond.constantLong RX0 52 (-9223372036854775808), Cond.methodLink RX0 48 yX1_value, Cond.static yX1_value, Cond.code yX1_value cX1_value 4 (some .double), Cond.methodLink RX1 31 yX1_valueOfSize, Cond.static yX1_valueOfSize, Cond.code yX1_valueOfSize cX1_valueOfSize 5 (some .double), Cond.constantLong RX1 45 (4503599627370495), Cond.constantDouble RX1 47 (4372995238176751616), Cond.methodLink RX1 35 yX1_isInfinite, Cond.methodLink RX1 39 yX2_beyondAll, Cond.static yX2_beyondAll, Cond.initialized RX2, Cond.code yX2_beyondAll cX2_beyondAll 0 (some .double), Cond.constantDouble RX2 27 (9218868437227405312), Cond.methodLink RX1 49 yX2_scaled, Cond.static yX2_scaled, Cond.code yX2_scaled cX2_scaled 7 (some .double), Cond.methodLink RX2 31 yX2_leap, Cond.static yX2_leap, Cond.code yX2_leap cX2_leap 1 (some .double), Cond.constantDouble RX2 7 (4611686018427387904)]
def wsX6_swing_r3 : List Cond := [Cond.constantDouble RX2 9 (4616189618054758400), Cond.constantDouble RX2 11 (4625196817309499392), Cond.constantDouble RX2 13 (4643211215818981376), Cond.constantDouble RX2 15 (4679240012837945344), Cond.constantDouble RX2 17 (4751297606875873280), Cond.constantDouble RX2 19 (4895412794951729152), Cond.constantDouble RX2 21 (5183643171103440896), Cond.constantDouble RX2 23 (5760103923406864384), Cond.constantDouble RX2 25 (6913025428013711360), Cond.methodLink RX0 54 yX1_of, Cond.static yX1_of, Cond.code yX1_of cX1_of 2 (some .long), Cond.constantLong RX1 13 (-9223372036854775808), Cond.methodLink RX1 53 yX1_ofSize, Cond.static yX1_ofSize, Cond.code yX1_ofSize cX1_ofSize 5 (some .long), Cond.constantDouble RX1 65 (4841369599423283200), Cond.methodLink RX1 57 yX2_floorFromOne, Cond.static yX2_floorFromOne, Cond.code yX2_floorFromOne cX2_floorFromOne 6 (some .int), Cond.methodLink RX1 61 yX2_floorBelowOne, Cond.static yX2_floorBelowOne, Cond.code yX2_floorBelowOne cX2_floorBelowOne 7 (some .int), Cond.methodLink RX6 105 yX1_opposite]
def wsX6_swing_r4 : List Cond := [Cond.static yX1_opposite, Cond.code yX1_opposite cX1_opposite 2 (some .long), Cond.methodLink RX6 57 yX6_putWalled, Cond.instanceMethod yX6_putWalled, Cond.selects RX6 yX6_putWalled yX6_putWalled, Cond.code yX6_putWalled cX6_putWalled 10 (some .int), Cond.fieldLink RX6 172 "SnapTable" "met" "I", Cond.methodLink RX6 182 yX0_walled, Cond.instanceMethod yX0_walled, Cond.selects RX0 yX0_walled yX0_walled, Cond.code yX0_walled cX0_walled 3 (some .long), Cond.fieldLink RX0 25 "SnapTable$Axis" "most" "J", Cond.fieldLink RX0 19 "SnapTable$Axis" "least" "J", Cond.methodLink RX0 37 yX1_lesser, Cond.static yX1_lesser, Cond.code yX1_lesser cX1_lesser 4 (some .long), Cond.methodLink RX1 21 yX1_rank, Cond.static yX1_rank, Cond.code yX1_rank cX1_rank 2 (some .long), Cond.methodLink RX0 41 yX1_greater, Cond.static yX1_greater, Cond.code yX1_greater cX1_greater 4 (some .long), Cond.methodLink RX6 102 yX6_put, Cond.instanceMethod yX6_put]
def wsX6_swing_r5 : List Cond := [Cond.selects RX6 yX6_put yX6_put, Cond.code yX6_put cX6_put 6 (some .int), Cond.fieldLink RX6 24 "SnapTable" "trail" "LSnapTable$Trail;", Cond.methodLink RX6 185 yX4_keep, Cond.instanceMethod yX4_keep, Cond.selects RX4 yX4_keep yX4_keep, Cond.initialized RX4, Cond.code yX4_keep cX4_keep 6 none, Cond.fieldLink RX4 9 "SnapTable$Trail" "points" "[I", Cond.fieldLink RX4 20 "SnapTable$Trail" "next" "I", Cond.fieldLink RX4 13 "SnapTable$Trail" "widths" "[J", Cond.fieldLink RX4 17 "SnapTable$Trail" "heights" "[J", Cond.fieldLink RX4 24 "SnapTable$Trail" "size" "I", Cond.methodLink RX6 72 yX6_finish, Cond.instanceMethod yX6_finish, Cond.selects RX6 yX6_finish yX6_finish, Cond.code yX6_finish cX6_finish 1 (some .int), Cond.fieldLink RX6 166 "SnapTable" "done" "I"]
def wsX6_swing : List Cond := .code yX6_swing cX6_swing 6 (some .int) :: ((wsX6_swing_r1 ++ (wsX6_swing_r2 ++ (wsX6_swing_r3 ++ (wsX6_swing_r4 ++ wsX6_swing_r5)))) ++ wsX60 ++ wsX00 ++ wsX40)
def wsX6_guide : List Cond := .code yX6_guide cX6_guide 4 (some .int) :: ([.fieldLink RX6 28 "SnapTable" "guides" "[J", .methodLink RX6 46 yX6_refuse, .instanceMethod yX6_refuse, .selects RX6 yX6_refuse yX6_refuse, .initialized RX6, .code yX6_refuse cX6_refuse 2 (some .int), .fieldLink RX6 169 "SnapTable" "refused" "I", .methodLink RX6 50 yX1_isNone, .static yX1_isNone, .initialized RX1, .code yX1_isNone cX1_isNone 2 (some .boolean), .constantLong RX1 9 (9223372036854775807), .constantLong RX1 11 (9218868437227405312), .methodLink RX6 72 yX6_finish, .instanceMethod yX6_finish, .selects RX6 yX6_finish yX6_finish, .code yX6_finish cX6_finish 1 (some .int), .fieldLink RX6 166 "SnapTable" "done" "I"] ++ wsX60)
def wsX6_nearestGuide_r1 : List Cond := [Cond.fieldLink RX6 28 "SnapTable" "guides" "[J", Cond.fieldLink RX6 12 "SnapTable" "widths" "LSnapTable$Axis;", Cond.methodLink RX6 54 yX1_isInfinite, Cond.static yX1_isInfinite, Cond.initialized RX1, Cond.code yX1_isInfinite cX1_isInfinite 2 (some .boolean), Cond.constantLong RX1 9 (9223372036854775807), Cond.constantLong RX1 11 (9218868437227405312), Cond.methodLink RX6 117 yX0_apart, Cond.instanceMethod yX0_apart, Cond.selects RX0 yX0_apart yX0_apart, Cond.initialized RX0, Cond.code yX0_apart cX0_apart 11 (some .double), Cond.fieldLink RX0 33 "SnapTable$Axis" "slim" "Z", Cond.methodLink RX0 48 yX1_value, Cond.static yX1_value, Cond.code yX1_value cX1_value 4 (some .double), Cond.methodLink RX1 31 yX1_valueOfSize, Cond.static yX1_valueOfSize, Cond.code yX1_valueOfSize cX1_valueOfSize 5 (some .double), Cond.constantLong RX1 45 (4503599627370495), Cond.constantDouble RX1 47 (4372995238176751616), Cond.methodLink RX1 35 yX1_isInfinite, Cond.methodLink RX1 39 yX2_beyondAll]
def wsX6_nearestGuide_r2 : List Cond := [Cond.static yX2_beyondAll, Cond.initialized RX2, Cond.code yX2_beyondAll cX2_beyondAll 0 (some .double), Cond.constantDouble RX2 27 (9218868437227405312), Cond.methodLink RX1 49 yX2_scaled, Cond.static yX2_scaled, Cond.code yX2_scaled cX2_scaled 7 (some .double), Cond.methodLink RX2 31 yX2_leap, Cond.static yX2_leap, Cond.code yX2_leap cX2_leap 1 (some .double), Cond.constantDouble RX2 7 (4611686018427387904), Cond.constantDouble RX2 9 (4616189618054758400), Cond.constantDouble RX2 11 (4625196817309499392), Cond.constantDouble RX2 13 (4643211215818981376), Cond.constantDouble RX2 15 (4679240012837945344), Cond.constantDouble RX2 17 (4751297606875873280), Cond.constantDouble RX2 19 (4895412794951729152), Cond.constantDouble RX2 21 (5183643171103440896), Cond.constantDouble RX2 23 (5760103923406864384), Cond.constantDouble RX2 25 (6913025428013711360)]
def wsX6_nearestGuide : List Cond := .code yX6_nearestGuide cX6_nearestGuide 9 (some .int) :: ((wsX6_nearestGuide_r1 ++ wsX6_nearestGuide_r2) ++ wsX60 ++ wsX00)
def wsX6_stick_r1 : List Cond := [Cond.fieldLink RX6 12 "SnapTable" "widths" "LSnapTable$Axis;", Cond.fieldLink RX6 28 "SnapTable" "guides" "[J", Cond.fieldLink RX6 18 "SnapTable" "heights" "LSnapTable$Axis;", Cond.methodLink RX6 42 yX6_isPoint, Cond.static yX6_isPoint, Cond.initialized RX6, Cond.code yX6_isPoint cX6_isPoint 1 (some .boolean), Cond.methodLink RX6 46 yX6_refuse, Cond.instanceMethod yX6_refuse, Cond.selects RX6 yX6_refuse yX6_refuse, Cond.code yX6_refuse cX6_refuse 2 (some .int), Cond.fieldLink RX6 169 "SnapTable" "refused" "I", Cond.methodLink RX6 50 yX1_isNone, Cond.static yX1_isNone, Cond.initialized RX1, Cond.code yX1_isNone cX1_isNone 2 (some .boolean), Cond.constantLong RX1 9 (9223372036854775807), Cond.constantLong RX1 11 (9218868437227405312), Cond.methodLink RX6 109 yX1_value, Cond.static yX1_value, Cond.code yX1_value cX1_value 4 (some .double), Cond.methodLink RX1 31 yX1_valueOfSize, Cond.static yX1_valueOfSize, Cond.code yX1_valueOfSize cX1_valueOfSize 5 (some .double)]
def wsX6_stick_r2 : List Cond := [Cond.constantLong RX1 45 (4503599627370495), Cond.constantDouble RX1 47 (4372995238176751616), Cond.methodLink RX1 35 yX1_isInfinite, Cond.static yX1_isInfinite, Cond.code yX1_isInfinite cX1_isInfinite 2 (some .boolean), Cond.methodLink RX1 39 yX2_beyondAll, Cond.static yX2_beyondAll, Cond.initialized RX2, Cond.code yX2_beyondAll cX2_beyondAll 0 (some .double), Cond.constantDouble RX2 27 (9218868437227405312), Cond.methodLink RX1 49 yX2_scaled, Cond.static yX2_scaled, Cond.code yX2_scaled cX2_scaled 7 (some .double), Cond.methodLink RX2 31 yX2_leap, Cond.static yX2_leap, Cond.code yX2_leap cX2_leap 1 (some .double), Cond.constantDouble RX2 7 (4611686018427387904), Cond.constantDouble RX2 9 (4616189618054758400), Cond.constantDouble RX2 11 (4625196817309499392), Cond.constantDouble RX2 13 (4643211215818981376), Cond.constantDouble RX2 15 (4679240012837945344), Cond.constantDouble RX2 17 (4751297606875873280), Cond.constantDouble RX2 19 (4895412794951729152), Cond.constantDouble RX2 21 (5183643171103440896)]
def wsX6_stick_r3 : List Cond := [Cond.constantDouble RX2 23 (5760103923406864384), Cond.constantDouble RX2 25 (6913025428013711360), Cond.methodLink RX6 113 yX6_nearestGuide, Cond.instanceMethod yX6_nearestGuide, Cond.selects RX6 yX6_nearestGuide yX6_nearestGuide, Cond.code yX6_nearestGuide cX6_nearestGuide 9 (some .int), Cond.methodLink RX6 54 yX1_isInfinite, Cond.methodLink RX6 117 yX0_apart, Cond.instanceMethod yX0_apart, Cond.selects RX0 yX0_apart yX0_apart, Cond.initialized RX0, Cond.code yX0_apart cX0_apart 11 (some .double), Cond.fieldLink RX0 33 "SnapTable$Axis" "slim" "Z", Cond.methodLink RX0 48 yX1_value, Cond.methodLink RX6 57 yX6_putWalled, Cond.instanceMethod yX6_putWalled, Cond.selects RX6 yX6_putWalled yX6_putWalled, Cond.code yX6_putWalled cX6_putWalled 10 (some .int), Cond.fieldLink RX6 172 "SnapTable" "met" "I", Cond.methodLink RX6 182 yX0_walled, Cond.instanceMethod yX0_walled, Cond.selects RX0 yX0_walled yX0_walled, Cond.code yX0_walled cX0_walled 3 (some .long), Cond.fieldLink RX0 25 "SnapTable$Axis" "most" "J"]
def wsX6_stick_r4 : List Cond := [Cond.fieldLink RX0 19 "SnapTable$Axis" "least" "J", Cond.methodLink RX0 37 yX1_lesser, Cond.static yX1_lesser, Cond.code yX1_lesser cX1_lesser 4 (some .long), Cond.methodLink RX1 21 yX1_rank, Cond.static yX1_rank, Cond.code yX1_rank cX1_rank 2 (some .long), Cond.methodLink RX0 41 yX1_greater, Cond.static yX1_greater, Cond.code yX1_greater cX1_greater 4 (some .long), Cond.methodLink RX6 102 yX6_put, Cond.instanceMethod yX6_put, Cond.selects RX6 yX6_put yX6_put, Cond.code yX6_put cX6_put 6 (some .int), Cond.fieldLink RX6 24 "SnapTable" "trail" "LSnapTable$Trail;", Cond.methodLink RX6 185 yX4_keep, Cond.instanceMethod yX4_keep, Cond.selects RX4 yX4_keep yX4_keep, Cond.initialized RX4, Cond.code yX4_keep cX4_keep 6 none, Cond.fieldLink RX4 9 "SnapTable$Trail" "points" "[I", Cond.fieldLink RX4 20 "SnapTable$Trail" "next" "I", Cond.fieldLink RX4 13 "SnapTable$Trail" "widths" "[J", Cond.fieldLink RX4 17 "SnapTable$Trail" "heights" "[J"]
def wsX6_stick_r5 : List Cond := [Cond.fieldLink RX4 24 "SnapTable$Trail" "size" "I", Cond.methodLink RX6 72 yX6_finish, Cond.instanceMethod yX6_finish, Cond.selects RX6 yX6_finish yX6_finish, Cond.code yX6_finish cX6_finish 1 (some .int), Cond.fieldLink RX6 166 "SnapTable" "done" "I"]
def wsX6_stick : List Cond := .code yX6_stick cX6_stick 5 (some .int) :: ((wsX6_stick_r1 ++ (wsX6_stick_r2 ++ (wsX6_stick_r3 ++ (wsX6_stick_r4 ++ wsX6_stick_r5)))) ++ wsX60 ++ wsX00 ++ wsX40)
def wsX6_undo : List Cond := .code yX6_undo cX6_undo 3 (some .int) :: ([.fieldLink RX6 24 "SnapTable" "trail" "LSnapTable$Trail;", .fieldLink RX6 12 "SnapTable" "widths" "LSnapTable$Axis;", .fieldLink RX6 18 "SnapTable" "heights" "LSnapTable$Axis;", .methodLink RX6 125 yX4_takeLatest, .instanceMethod yX4_takeLatest, .selects RX4 yX4_takeLatest yX4_takeLatest, .initialized RX4, .code yX4_takeLatest cX4_takeLatest 1 (some .int), .fieldLink RX4 20 "SnapTable$Trail" "next" "I", .fieldLink RX4 24 "SnapTable$Trail" "size" "I"] ++ wsX60 ++ wsX40 ++ wsX00)
def wsX6_x : List Cond := .code yX6_x cX6_x 2 (some .long) :: ([.fieldLink RX6 12 "SnapTable" "widths" "LSnapTable$Axis;", .methodLink RX6 42 yX6_isPoint, .static yX6_isPoint, .initialized RX6, .code yX6_isPoint cX6_isPoint 1 (some .boolean)] ++ wsX60 ++ wsX00)
def wsX6_y_r1 : List Cond := [Cond.fieldLink RX6 18 "SnapTable" "heights" "LSnapTable$Axis;", Cond.methodLink RX6 42 yX6_isPoint, Cond.static yX6_isPoint, Cond.initialized RX6, Cond.code yX6_isPoint cX6_isPoint 1 (some .boolean), Cond.methodLink RX6 136 yX3_narrowed, Cond.static yX3_narrowed, Cond.initialized RX3, Cond.code yX3_narrowed cX3_narrowed 5 (some .int), Cond.constant RX3 26 (-2147483648), Cond.constantLong RX3 27 (9223372036854775807), Cond.constantLong RX3 29 (4039728865751334912), Cond.constantDouble RX3 35 (5278218763278221312), Cond.constantLong RX3 24 (4035225266123964416), Cond.methodLink RX3 31 yX1_valueOfSize, Cond.static yX1_valueOfSize, Cond.initialized RX1, Cond.code yX1_valueOfSize cX1_valueOfSize 5 (some .double), Cond.constantLong RX1 9 (9223372036854775807), Cond.constantLong RX1 45 (4503599627370495), Cond.constantDouble RX1 47 (4372995238176751616), Cond.methodLink RX1 35 yX1_isInfinite, Cond.static yX1_isInfinite, Cond.code yX1_isInfinite cX1_isInfinite 2 (some .boolean)]
def wsX6_y_r2 : List Cond := [Cond.constantLong RX1 11 (9218868437227405312), Cond.methodLink RX1 39 yX2_beyondAll, Cond.static yX2_beyondAll, Cond.initialized RX2, Cond.code yX2_beyondAll cX2_beyondAll 0 (some .double), Cond.constantDouble RX2 27 (9218868437227405312), Cond.methodLink RX1 49 yX2_scaled, Cond.static yX2_scaled, Cond.code yX2_scaled cX2_scaled 7 (some .double), Cond.methodLink RX2 31 yX2_leap, Cond.static yX2_leap, Cond.code yX2_leap cX2_leap 1 (some .double), Cond.constantDouble RX2 7 (4611686018427387904), Cond.constantDouble RX2 9 (4616189618054758400), Cond.constantDouble RX2 11 (4625196817309499392), Cond.constantDouble RX2 13 (4643211215818981376), Cond.constantDouble RX2 15 (4679240012837945344), Cond.constantDouble RX2 17 (4751297606875873280), Cond.constantDouble RX2 19 (4895412794951729152), Cond.constantDouble RX2 21 (5183643171103440896), Cond.constantDouble RX2 23 (5760103923406864384), Cond.constantDouble RX2 25 (6913025428013711360)]
def wsX6_y : List Cond := .code yX6_y cX6_y 2 (some .int) :: ((wsX6_y_r1 ++ wsX6_y_r2) ++ wsX60 ++ wsX00)
def wsX6_side : List Cond := .code yX6_side cX6_side 2 (some .long) :: ([.fieldLink RX6 12 "SnapTable" "widths" "LSnapTable$Axis;", .methodLink RX6 42 yX6_isPoint, .static yX6_isPoint, .initialized RX6, .code yX6_isPoint cX6_isPoint 1 (some .boolean), .methodLink RX6 139 yX1_unit, .static yX1_unit, .initialized RX1, .code yX1_unit cX1_unit 2 (some .long), .constantLong RX1 9 (9223372036854775807), .constantLong RX1 15 (4607182418800017408), .methodLink RX1 17 yX1_withSignOf, .static yX1_withSignOf, .code yX1_withSignOf cX1_withSignOf 4 (some .long), .constantLong RX1 13 (-9223372036854775808)] ++ wsX60 ++ wsX00)
def wsX6_lift_r1 : List Cond := [Cond.fieldLink RX6 18 "SnapTable" "heights" "LSnapTable$Axis;", Cond.methodLink RX6 42 yX6_isPoint, Cond.static yX6_isPoint, Cond.initialized RX6, Cond.code yX6_isPoint cX6_isPoint 1 (some .boolean), Cond.methodLink RX6 139 yX1_unit, Cond.static yX1_unit, Cond.initialized RX1, Cond.code yX1_unit cX1_unit 2 (some .long), Cond.constantLong RX1 9 (9223372036854775807), Cond.constantLong RX1 15 (4607182418800017408), Cond.methodLink RX1 17 yX1_withSignOf, Cond.static yX1_withSignOf, Cond.code yX1_withSignOf cX1_withSignOf 4 (some .long), Cond.constantLong RX1 13 (-9223372036854775808), Cond.methodLink RX6 136 yX3_narrowed, Cond.static yX3_narrowed, Cond.initialized RX3, Cond.code yX3_narrowed cX3_narrowed 5 (some .int), Cond.constant RX3 26 (-2147483648), Cond.constantLong RX3 27 (9223372036854775807), Cond.constantLong RX3 29 (4039728865751334912), Cond.constantDouble RX3 35 (5278218763278221312), Cond.constantLong RX3 24 (4035225266123964416)]
def wsX6_lift_r2 : List Cond := [Cond.methodLink RX3 31 yX1_valueOfSize, Cond.static yX1_valueOfSize, Cond.code yX1_valueOfSize cX1_valueOfSize 5 (some .double), Cond.constantLong RX1 45 (4503599627370495), Cond.constantDouble RX1 47 (4372995238176751616), Cond.methodLink RX1 35 yX1_isInfinite, Cond.static yX1_isInfinite, Cond.code yX1_isInfinite cX1_isInfinite 2 (some .boolean), Cond.constantLong RX1 11 (9218868437227405312), Cond.methodLink RX1 39 yX2_beyondAll, Cond.static yX2_beyondAll, Cond.initialized RX2, Cond.code yX2_beyondAll cX2_beyondAll 0 (some .double), Cond.constantDouble RX2 27 (9218868437227405312), Cond.methodLink RX1 49 yX2_scaled, Cond.static yX2_scaled, Cond.code yX2_scaled cX2_scaled 7 (some .double), Cond.methodLink RX2 31 yX2_leap, Cond.static yX2_leap, Cond.code yX2_leap cX2_leap 1 (some .double), Cond.constantDouble RX2 7 (4611686018427387904), Cond.constantDouble RX2 9 (4616189618054758400), Cond.constantDouble RX2 11 (4625196817309499392), Cond.constantDouble RX2 13 (4643211215818981376)]
def wsX6_lift_r3 : List Cond := [Cond.constantDouble RX2 15 (4679240012837945344), Cond.constantDouble RX2 17 (4751297606875873280), Cond.constantDouble RX2 19 (4895412794951729152), Cond.constantDouble RX2 21 (5183643171103440896), Cond.constantDouble RX2 23 (5760103923406864384), Cond.constantDouble RX2 25 (6913025428013711360)]
def wsX6_lift : List Cond := .code yX6_lift cX6_lift 2 (some .int) :: ((wsX6_lift_r1 ++ (wsX6_lift_r2 ++ wsX6_lift_r3)) ++ wsX60 ++ wsX00)
def wsX6_distance_r1 : List Cond := [Cond.fieldLink RX6 12 "SnapTable" "widths" "LSnapTable$Axis;", Cond.fieldLink RX6 18 "SnapTable" "heights" "LSnapTable$Axis;", Cond.methodLink RX6 117 yX0_apart, Cond.instanceMethod yX0_apart, Cond.selects RX0 yX0_apart yX0_apart, Cond.initialized RX0, Cond.code yX0_apart cX0_apart 11 (some .double), Cond.fieldLink RX0 33 "SnapTable$Axis" "slim" "Z", Cond.methodLink RX0 48 yX1_value, Cond.static yX1_value, Cond.initialized RX1, Cond.code yX1_value cX1_value 4 (some .double), Cond.methodLink RX1 31 yX1_valueOfSize, Cond.static yX1_valueOfSize, Cond.code yX1_valueOfSize cX1_valueOfSize 5 (some .double), Cond.constantLong RX1 9 (9223372036854775807), Cond.constantLong RX1 45 (4503599627370495), Cond.constantDouble RX1 47 (4372995238176751616), Cond.methodLink RX1 35 yX1_isInfinite, Cond.static yX1_isInfinite, Cond.code yX1_isInfinite cX1_isInfinite 2 (some .boolean), Cond.constantLong RX1 11 (9218868437227405312), Cond.methodLink RX1 39 yX2_beyondAll, Cond.static yX2_beyondAll]
def wsX6_distance_r2 : List Cond := [Cond.initialized RX2, Cond.code yX2_beyondAll cX2_beyondAll 0 (some .double), Cond.constantDouble RX2 27 (9218868437227405312), Cond.methodLink RX1 49 yX2_scaled, Cond.static yX2_scaled, Cond.code yX2_scaled cX2_scaled 7 (some .double), Cond.methodLink RX2 31 yX2_leap, Cond.static yX2_leap, Cond.code yX2_leap cX2_leap 1 (some .double), Cond.constantDouble RX2 7 (4611686018427387904), Cond.constantDouble RX2 9 (4616189618054758400), Cond.constantDouble RX2 11 (4625196817309499392), Cond.constantDouble RX2 13 (4643211215818981376), Cond.constantDouble RX2 15 (4679240012837945344), Cond.constantDouble RX2 17 (4751297606875873280), Cond.constantDouble RX2 19 (4895412794951729152), Cond.constantDouble RX2 21 (5183643171103440896), Cond.constantDouble RX2 23 (5760103923406864384), Cond.constantDouble RX2 25 (6913025428013711360)]
def wsX6_distance : List Cond := .code yX6_distance cX6_distance 7 (some .double) :: ((wsX6_distance_r1 ++ wsX6_distance_r2) ++ wsX60 ++ wsX00)
def wsX6_far_r1 : List Cond := [Cond.methodLink RX6 42 yX6_isPoint, Cond.static yX6_isPoint, Cond.initialized RX6, Cond.code yX6_isPoint cX6_isPoint 1 (some .boolean), Cond.methodLink RX6 142 yX6_distance, Cond.instanceMethod yX6_distance, Cond.selects RX6 yX6_distance yX6_distance, Cond.code yX6_distance cX6_distance 7 (some .double), Cond.fieldLink RX6 12 "SnapTable" "widths" "LSnapTable$Axis;", Cond.fieldLink RX6 18 "SnapTable" "heights" "LSnapTable$Axis;", Cond.methodLink RX6 117 yX0_apart, Cond.instanceMethod yX0_apart, Cond.selects RX0 yX0_apart yX0_apart, Cond.initialized RX0, Cond.code yX0_apart cX0_apart 11 (some .double), Cond.fieldLink RX0 33 "SnapTable$Axis" "slim" "Z", Cond.methodLink RX0 48 yX1_value, Cond.static yX1_value, Cond.initialized RX1, Cond.code yX1_value cX1_value 4 (some .double), Cond.methodLink RX1 31 yX1_valueOfSize, Cond.static yX1_valueOfSize, Cond.code yX1_valueOfSize cX1_valueOfSize 5 (some .double), Cond.constantLong RX1 9 (9223372036854775807)]
def wsX6_far_r2 : List Cond := [Cond.constantLong RX1 45 (4503599627370495), Cond.constantDouble RX1 47 (4372995238176751616), Cond.methodLink RX1 35 yX1_isInfinite, Cond.static yX1_isInfinite, Cond.code yX1_isInfinite cX1_isInfinite 2 (some .boolean), Cond.constantLong RX1 11 (9218868437227405312), Cond.methodLink RX1 39 yX2_beyondAll, Cond.static yX2_beyondAll, Cond.initialized RX2, Cond.code yX2_beyondAll cX2_beyondAll 0 (some .double), Cond.constantDouble RX2 27 (9218868437227405312), Cond.methodLink RX1 49 yX2_scaled, Cond.static yX2_scaled, Cond.code yX2_scaled cX2_scaled 7 (some .double), Cond.methodLink RX2 31 yX2_leap, Cond.static yX2_leap, Cond.code yX2_leap cX2_leap 1 (some .double), Cond.constantDouble RX2 7 (4611686018427387904), Cond.constantDouble RX2 9 (4616189618054758400), Cond.constantDouble RX2 11 (4625196817309499392), Cond.constantDouble RX2 13 (4643211215818981376), Cond.constantDouble RX2 15 (4679240012837945344), Cond.constantDouble RX2 17 (4751297606875873280), Cond.constantDouble RX2 19 (4895412794951729152)]
def wsX6_far_r3 : List Cond := [Cond.constantDouble RX2 21 (5183643171103440896), Cond.constantDouble RX2 23 (5760103923406864384), Cond.constantDouble RX2 25 (6913025428013711360), Cond.methodLink RX6 146 yX1_ofSize, Cond.static yX1_ofSize, Cond.code yX1_ofSize cX1_ofSize 5 (some .long), Cond.constantDouble RX1 65 (4841369599423283200), Cond.methodLink RX1 57 yX2_floorFromOne, Cond.static yX2_floorFromOne, Cond.code yX2_floorFromOne cX2_floorFromOne 6 (some .int), Cond.methodLink RX1 61 yX2_floorBelowOne, Cond.static yX2_floorBelowOne, Cond.code yX2_floorBelowOne cX2_floorBelowOne 7 (some .int)]
def wsX6_far : List Cond := .code yX6_far cX6_far 3 (some .long) :: ((wsX6_far_r1 ++ (wsX6_far_r2 ++ wsX6_far_r3)) ++ wsX60 ++ wsX00)
def wsX6_cellAt_r1 : List Cond := [Cond.fieldLink RX6 12 "SnapTable" "widths" "LSnapTable$Axis;", Cond.methodLink RX6 189 yX0_wholeSteps, Cond.instanceMethod yX0_wholeSteps, Cond.selects RX0 yX0_wholeSteps yX0_wholeSteps, Cond.initialized RX0, Cond.code yX0_wholeSteps cX0_wholeSteps 10 (some .long), Cond.fieldLink RX0 30 "SnapTable$Axis" "step" "J", Cond.fieldLink RX0 33 "SnapTable$Axis" "slim" "Z", Cond.methodLink RX0 58 yX1_valueOfSize, Cond.static yX1_valueOfSize, Cond.initialized RX1, Cond.code yX1_valueOfSize cX1_valueOfSize 5 (some .double), Cond.constantLong RX1 9 (9223372036854775807), Cond.constantLong RX1 45 (4503599627370495), Cond.constantDouble RX1 47 (4372995238176751616), Cond.methodLink RX1 35 yX1_isInfinite, Cond.static yX1_isInfinite, Cond.code yX1_isInfinite cX1_isInfinite 2 (some .boolean), Cond.constantLong RX1 11 (9218868437227405312), Cond.methodLink RX1 39 yX2_beyondAll, Cond.static yX2_beyondAll, Cond.initialized RX2, Cond.code yX2_beyondAll cX2_beyondAll 0 (some .double), Cond.constantDouble RX2 27 (9218868437227405312)]
def wsX6_cellAt_r2 : List Cond := [Cond.methodLink RX1 49 yX2_scaled, Cond.static yX2_scaled, Cond.code yX2_scaled cX2_scaled 7 (some .double), Cond.methodLink RX2 31 yX2_leap, Cond.static yX2_leap, Cond.code yX2_leap cX2_leap 1 (some .double), Cond.constantDouble RX2 7 (4611686018427387904), Cond.constantDouble RX2 9 (4616189618054758400), Cond.constantDouble RX2 11 (4625196817309499392), Cond.constantDouble RX2 13 (4643211215818981376), Cond.constantDouble RX2 15 (4679240012837945344), Cond.constantDouble RX2 17 (4751297606875873280), Cond.constantDouble RX2 19 (4895412794951729152), Cond.constantDouble RX2 21 (5183643171103440896), Cond.constantDouble RX2 23 (5760103923406864384), Cond.constantDouble RX2 25 (6913025428013711360), Cond.methodLink RX0 61 yX1_ofSize, Cond.static yX1_ofSize, Cond.code yX1_ofSize cX1_ofSize 5 (some .long), Cond.constantDouble RX1 65 (4841369599423283200), Cond.methodLink RX1 57 yX2_floorFromOne, Cond.static yX2_floorFromOne, Cond.code yX2_floorFromOne cX2_floorFromOne 6 (some .int), Cond.methodLink RX1 61 yX2_floorBelowOne]
def wsX6_cellAt_r3 : List Cond := [Cond.static yX2_floorBelowOne, Cond.code yX2_floorBelowOne cX2_floorBelowOne 7 (some .int), Cond.methodLink RX0 64 yX1_withSignOf, Cond.static yX1_withSignOf, Cond.code yX1_withSignOf cX1_withSignOf 4 (some .long), Cond.constantLong RX1 13 (-9223372036854775808), Cond.methodLink RX0 67 yX5_whole, Cond.static yX5_whole, Cond.initialized RX5, Cond.code yX5_whole cX5_whole 8 (some .long), Cond.constantLong RX5 11 (9223372036854775807), Cond.constantLong RX5 13 (4841369599423283200), Cond.constantLong RX5 19 (2), Cond.methodLink RX5 15 yX1_valueOfSize, Cond.methodLink RX5 21 yX5_growsInSize, Cond.static yX5_growsInSize, Cond.code yX5_growsInSize cX5_growsInSize 5 (some .boolean), Cond.constantDouble RX5 33 (4602678819172646912), Cond.methodLink RX5 25 yX1_ofSize, Cond.methodLink RX5 29 yX1_withSignOf, Cond.methodLink RX6 109 yX1_value, Cond.static yX1_value, Cond.code yX1_value cX1_value 4 (some .double), Cond.methodLink RX1 31 yX1_valueOfSize]
def wsX6_cellAt : List Cond := .code yX6_cellAt cX6_cellAt 3 (some .int) :: ((wsX6_cellAt_r1 ++ (wsX6_cellAt_r2 ++ wsX6_cellAt_r3)) ++ wsX60 ++ wsX00)
def wsX6_cell_r1 : List Cond := [Cond.fieldLink RX6 12 "SnapTable" "widths" "LSnapTable$Axis;", Cond.methodLink RX6 42 yX6_isPoint, Cond.static yX6_isPoint, Cond.initialized RX6, Cond.code yX6_isPoint cX6_isPoint 1 (some .boolean), Cond.methodLink RX6 150 yX6_cellAt, Cond.instanceMethod yX6_cellAt, Cond.selects RX6 yX6_cellAt yX6_cellAt, Cond.code yX6_cellAt cX6_cellAt 3 (some .int), Cond.methodLink RX6 189 yX0_wholeSteps, Cond.instanceMethod yX0_wholeSteps, Cond.selects RX0 yX0_wholeSteps yX0_wholeSteps, Cond.initialized RX0, Cond.code yX0_wholeSteps cX0_wholeSteps 10 (some .long), Cond.fieldLink RX0 30 "SnapTable$Axis" "step" "J", Cond.fieldLink RX0 33 "SnapTable$Axis" "slim" "Z", Cond.methodLink RX0 58 yX1_valueOfSize, Cond.static yX1_valueOfSize, Cond.initialized RX1, Cond.code yX1_valueOfSize cX1_valueOfSize 5 (some .double), Cond.constantLong RX1 9 (9223372036854775807), Cond.constantLong RX1 45 (4503599627370495), Cond.constantDouble RX1 47 (4372995238176751616), Cond.methodLink RX1 35 yX1_isInfinite]
def wsX6_cell_r2 : List Cond := [Cond.static yX1_isInfinite, Cond.code yX1_isInfinite cX1_isInfinite 2 (some .boolean), Cond.constantLong RX1 11 (9218868437227405312), Cond.methodLink RX1 39 yX2_beyondAll, Cond.static yX2_beyondAll, Cond.initialized RX2, Cond.code yX2_beyondAll cX2_beyondAll 0 (some .double), Cond.constantDouble RX2 27 (9218868437227405312), Cond.methodLink RX1 49 yX2_scaled, Cond.static yX2_scaled, Cond.code yX2_scaled cX2_scaled 7 (some .double), Cond.methodLink RX2 31 yX2_leap, Cond.static yX2_leap, Cond.code yX2_leap cX2_leap 1 (some .double), Cond.constantDouble RX2 7 (4611686018427387904), Cond.constantDouble RX2 9 (4616189618054758400), Cond.constantDouble RX2 11 (4625196817309499392), Cond.constantDouble RX2 13 (4643211215818981376), Cond.constantDouble RX2 15 (4679240012837945344), Cond.constantDouble RX2 17 (4751297606875873280), Cond.constantDouble RX2 19 (4895412794951729152), Cond.constantDouble RX2 21 (5183643171103440896), Cond.constantDouble RX2 23 (5760103923406864384), Cond.constantDouble RX2 25 (6913025428013711360)]
def wsX6_cell_r3 : List Cond := [Cond.methodLink RX0 61 yX1_ofSize, Cond.static yX1_ofSize, Cond.code yX1_ofSize cX1_ofSize 5 (some .long), Cond.constantDouble RX1 65 (4841369599423283200), Cond.methodLink RX1 57 yX2_floorFromOne, Cond.static yX2_floorFromOne, Cond.code yX2_floorFromOne cX2_floorFromOne 6 (some .int), Cond.methodLink RX1 61 yX2_floorBelowOne, Cond.static yX2_floorBelowOne, Cond.code yX2_floorBelowOne cX2_floorBelowOne 7 (some .int), Cond.methodLink RX0 64 yX1_withSignOf, Cond.static yX1_withSignOf, Cond.code yX1_withSignOf cX1_withSignOf 4 (some .long), Cond.constantLong RX1 13 (-9223372036854775808), Cond.methodLink RX0 67 yX5_whole, Cond.static yX5_whole, Cond.initialized RX5, Cond.code yX5_whole cX5_whole 8 (some .long), Cond.constantLong RX5 11 (9223372036854775807), Cond.constantLong RX5 13 (4841369599423283200), Cond.constantLong RX5 19 (2), Cond.methodLink RX5 15 yX1_valueOfSize, Cond.methodLink RX5 21 yX5_growsInSize, Cond.static yX5_growsInSize]
def wsX6_cell_r4 : List Cond := [Cond.code yX5_growsInSize cX5_growsInSize 5 (some .boolean), Cond.constantDouble RX5 33 (4602678819172646912), Cond.methodLink RX5 25 yX1_ofSize, Cond.methodLink RX5 29 yX1_withSignOf, Cond.methodLink RX6 109 yX1_value, Cond.static yX1_value, Cond.code yX1_value cX1_value 4 (some .double), Cond.methodLink RX1 31 yX1_valueOfSize]
def wsX6_cell : List Cond := .code yX6_cell cX6_cell 2 (some .int) :: ((wsX6_cell_r1 ++ (wsX6_cell_r2 ++ (wsX6_cell_r3 ++ wsX6_cell_r4))) ++ wsX60 ++ wsX00)
def wsX6_markAt_r1 : List Cond := [Cond.fieldLink RX6 18 "SnapTable" "heights" "LSnapTable$Axis;", Cond.methodLink RX6 189 yX0_wholeSteps, Cond.instanceMethod yX0_wholeSteps, Cond.selects RX0 yX0_wholeSteps yX0_wholeSteps, Cond.initialized RX0, Cond.code yX0_wholeSteps cX0_wholeSteps 10 (some .long), Cond.fieldLink RX0 30 "SnapTable$Axis" "step" "J", Cond.fieldLink RX0 33 "SnapTable$Axis" "slim" "Z", Cond.methodLink RX0 58 yX1_valueOfSize, Cond.static yX1_valueOfSize, Cond.initialized RX1, Cond.code yX1_valueOfSize cX1_valueOfSize 5 (some .double), Cond.constantLong RX1 9 (9223372036854775807), Cond.constantLong RX1 45 (4503599627370495), Cond.constantDouble RX1 47 (4372995238176751616), Cond.methodLink RX1 35 yX1_isInfinite, Cond.static yX1_isInfinite, Cond.code yX1_isInfinite cX1_isInfinite 2 (some .boolean), Cond.constantLong RX1 11 (9218868437227405312), Cond.methodLink RX1 39 yX2_beyondAll, Cond.static yX2_beyondAll, Cond.initialized RX2, Cond.code yX2_beyondAll cX2_beyondAll 0 (some .double), Cond.constantDouble RX2 27 (9218868437227405312)]
def wsX6_markAt_r2 : List Cond := [Cond.methodLink RX1 49 yX2_scaled, Cond.static yX2_scaled, Cond.code yX2_scaled cX2_scaled 7 (some .double), Cond.methodLink RX2 31 yX2_leap, Cond.static yX2_leap, Cond.code yX2_leap cX2_leap 1 (some .double), Cond.constantDouble RX2 7 (4611686018427387904), Cond.constantDouble RX2 9 (4616189618054758400), Cond.constantDouble RX2 11 (4625196817309499392), Cond.constantDouble RX2 13 (4643211215818981376), Cond.constantDouble RX2 15 (4679240012837945344), Cond.constantDouble RX2 17 (4751297606875873280), Cond.constantDouble RX2 19 (4895412794951729152), Cond.constantDouble RX2 21 (5183643171103440896), Cond.constantDouble RX2 23 (5760103923406864384), Cond.constantDouble RX2 25 (6913025428013711360), Cond.methodLink RX0 61 yX1_ofSize, Cond.static yX1_ofSize, Cond.code yX1_ofSize cX1_ofSize 5 (some .long), Cond.constantDouble RX1 65 (4841369599423283200), Cond.methodLink RX1 57 yX2_floorFromOne, Cond.static yX2_floorFromOne, Cond.code yX2_floorFromOne cX2_floorFromOne 6 (some .int), Cond.methodLink RX1 61 yX2_floorBelowOne]
def wsX6_markAt_r3 : List Cond := [Cond.static yX2_floorBelowOne, Cond.code yX2_floorBelowOne cX2_floorBelowOne 7 (some .int), Cond.methodLink RX0 64 yX1_withSignOf, Cond.static yX1_withSignOf, Cond.code yX1_withSignOf cX1_withSignOf 4 (some .long), Cond.constantLong RX1 13 (-9223372036854775808), Cond.methodLink RX0 67 yX5_whole, Cond.static yX5_whole, Cond.initialized RX5, Cond.code yX5_whole cX5_whole 8 (some .long), Cond.constantLong RX5 11 (9223372036854775807), Cond.constantLong RX5 13 (4841369599423283200), Cond.constantLong RX5 19 (2), Cond.methodLink RX5 15 yX1_valueOfSize, Cond.methodLink RX5 21 yX5_growsInSize, Cond.static yX5_growsInSize, Cond.code yX5_growsInSize cX5_growsInSize 5 (some .boolean), Cond.constantDouble RX5 33 (4602678819172646912), Cond.methodLink RX5 25 yX1_ofSize, Cond.methodLink RX5 29 yX1_withSignOf, Cond.methodLink RX6 109 yX1_value, Cond.static yX1_value, Cond.code yX1_value cX1_value 4 (some .double), Cond.methodLink RX1 31 yX1_valueOfSize]
def wsX6_markAt : List Cond := .code yX6_markAt cX6_markAt 3 (some .long) :: ((wsX6_markAt_r1 ++ (wsX6_markAt_r2 ++ wsX6_markAt_r3)) ++ wsX60 ++ wsX00)
def wsX6_mark_r1 : List Cond := [Cond.fieldLink RX6 18 "SnapTable" "heights" "LSnapTable$Axis;", Cond.methodLink RX6 42 yX6_isPoint, Cond.static yX6_isPoint, Cond.initialized RX6, Cond.code yX6_isPoint cX6_isPoint 1 (some .boolean), Cond.methodLink RX6 153 yX6_markAt, Cond.instanceMethod yX6_markAt, Cond.selects RX6 yX6_markAt yX6_markAt, Cond.code yX6_markAt cX6_markAt 3 (some .long), Cond.methodLink RX6 189 yX0_wholeSteps, Cond.instanceMethod yX0_wholeSteps, Cond.selects RX0 yX0_wholeSteps yX0_wholeSteps, Cond.initialized RX0, Cond.code yX0_wholeSteps cX0_wholeSteps 10 (some .long), Cond.fieldLink RX0 30 "SnapTable$Axis" "step" "J", Cond.fieldLink RX0 33 "SnapTable$Axis" "slim" "Z", Cond.methodLink RX0 58 yX1_valueOfSize, Cond.static yX1_valueOfSize, Cond.initialized RX1, Cond.code yX1_valueOfSize cX1_valueOfSize 5 (some .double), Cond.constantLong RX1 9 (9223372036854775807), Cond.constantLong RX1 45 (4503599627370495), Cond.constantDouble RX1 47 (4372995238176751616), Cond.methodLink RX1 35 yX1_isInfinite]
def wsX6_mark_r2 : List Cond := [Cond.static yX1_isInfinite, Cond.code yX1_isInfinite cX1_isInfinite 2 (some .boolean), Cond.constantLong RX1 11 (9218868437227405312), Cond.methodLink RX1 39 yX2_beyondAll, Cond.static yX2_beyondAll, Cond.initialized RX2, Cond.code yX2_beyondAll cX2_beyondAll 0 (some .double), Cond.constantDouble RX2 27 (9218868437227405312), Cond.methodLink RX1 49 yX2_scaled, Cond.static yX2_scaled, Cond.code yX2_scaled cX2_scaled 7 (some .double), Cond.methodLink RX2 31 yX2_leap, Cond.static yX2_leap, Cond.code yX2_leap cX2_leap 1 (some .double), Cond.constantDouble RX2 7 (4611686018427387904), Cond.constantDouble RX2 9 (4616189618054758400), Cond.constantDouble RX2 11 (4625196817309499392), Cond.constantDouble RX2 13 (4643211215818981376), Cond.constantDouble RX2 15 (4679240012837945344), Cond.constantDouble RX2 17 (4751297606875873280), Cond.constantDouble RX2 19 (4895412794951729152), Cond.constantDouble RX2 21 (5183643171103440896), Cond.constantDouble RX2 23 (5760103923406864384), Cond.constantDouble RX2 25 (6913025428013711360)]
def wsX6_mark_r3 : List Cond := [Cond.methodLink RX0 61 yX1_ofSize, Cond.static yX1_ofSize, Cond.code yX1_ofSize cX1_ofSize 5 (some .long), Cond.constantDouble RX1 65 (4841369599423283200), Cond.methodLink RX1 57 yX2_floorFromOne, Cond.static yX2_floorFromOne, Cond.code yX2_floorFromOne cX2_floorFromOne 6 (some .int), Cond.methodLink RX1 61 yX2_floorBelowOne, Cond.static yX2_floorBelowOne, Cond.code yX2_floorBelowOne cX2_floorBelowOne 7 (some .int), Cond.methodLink RX0 64 yX1_withSignOf, Cond.static yX1_withSignOf, Cond.code yX1_withSignOf cX1_withSignOf 4 (some .long), Cond.constantLong RX1 13 (-9223372036854775808), Cond.methodLink RX0 67 yX5_whole, Cond.static yX5_whole, Cond.initialized RX5, Cond.code yX5_whole cX5_whole 8 (some .long), Cond.constantLong RX5 11 (9223372036854775807), Cond.constantLong RX5 13 (4841369599423283200), Cond.constantLong RX5 19 (2), Cond.methodLink RX5 15 yX1_valueOfSize, Cond.methodLink RX5 21 yX5_growsInSize, Cond.static yX5_growsInSize]
def wsX6_mark_r4 : List Cond := [Cond.code yX5_growsInSize cX5_growsInSize 5 (some .boolean), Cond.constantDouble RX5 33 (4602678819172646912), Cond.methodLink RX5 25 yX1_ofSize, Cond.methodLink RX5 29 yX1_withSignOf, Cond.methodLink RX6 109 yX1_value, Cond.static yX1_value, Cond.code yX1_value cX1_value 4 (some .double), Cond.methodLink RX1 31 yX1_valueOfSize]
def wsX6_mark : List Cond := .code yX6_mark cX6_mark 2 (some .long) :: ((wsX6_mark_r1 ++ (wsX6_mark_r2 ++ (wsX6_mark_r3 ++ wsX6_mark_r4))) ++ wsX60 ++ wsX00)
def wsX6_gap_r1 : List Cond := [Cond.fieldLink RX6 12 "SnapTable" "widths" "LSnapTable$Axis;", Cond.methodLink RX6 156 Lib.Math.abs.name, Cond.static Lib.Math.abs.name, Cond.initialized "java/lang/Math", Cond.code Lib.Math.abs.name Lib.Math.abs.code 1 (some .int), Cond.methodLink RX6 42 yX6_isPoint, Cond.static yX6_isPoint, Cond.initialized RX6, Cond.code yX6_isPoint cX6_isPoint 1 (some .boolean), Cond.methodLink RX6 150 yX6_cellAt, Cond.instanceMethod yX6_cellAt, Cond.selects RX6 yX6_cellAt yX6_cellAt, Cond.code yX6_cellAt cX6_cellAt 3 (some .int), Cond.methodLink RX6 189 yX0_wholeSteps, Cond.instanceMethod yX0_wholeSteps, Cond.selects RX0 yX0_wholeSteps yX0_wholeSteps, Cond.initialized RX0, Cond.code yX0_wholeSteps cX0_wholeSteps 10 (some .long), Cond.fieldLink RX0 30 "SnapTable$Axis" "step" "J", Cond.fieldLink RX0 33 "SnapTable$Axis" "slim" "Z", Cond.methodLink RX0 58 yX1_valueOfSize, Cond.static yX1_valueOfSize, Cond.initialized RX1, Cond.code yX1_valueOfSize cX1_valueOfSize 5 (some .double)]
def wsX6_gap_r2 : List Cond := [Cond.constantLong RX1 9 (9223372036854775807), Cond.constantLong RX1 45 (4503599627370495), Cond.constantDouble RX1 47 (4372995238176751616), Cond.methodLink RX1 35 yX1_isInfinite, Cond.static yX1_isInfinite, Cond.code yX1_isInfinite cX1_isInfinite 2 (some .boolean), Cond.constantLong RX1 11 (9218868437227405312), Cond.methodLink RX1 39 yX2_beyondAll, Cond.static yX2_beyondAll, Cond.initialized RX2, Cond.code yX2_beyondAll cX2_beyondAll 0 (some .double), Cond.constantDouble RX2 27 (9218868437227405312), Cond.methodLink RX1 49 yX2_scaled, Cond.static yX2_scaled, Cond.code yX2_scaled cX2_scaled 7 (some .double), Cond.methodLink RX2 31 yX2_leap, Cond.static yX2_leap, Cond.code yX2_leap cX2_leap 1 (some .double), Cond.constantDouble RX2 7 (4611686018427387904), Cond.constantDouble RX2 9 (4616189618054758400), Cond.constantDouble RX2 11 (4625196817309499392), Cond.constantDouble RX2 13 (4643211215818981376), Cond.constantDouble RX2 15 (4679240012837945344), Cond.constantDouble RX2 17 (4751297606875873280)]
def wsX6_gap_r3 : List Cond := [Cond.constantDouble RX2 19 (4895412794951729152), Cond.constantDouble RX2 21 (5183643171103440896), Cond.constantDouble RX2 23 (5760103923406864384), Cond.constantDouble RX2 25 (6913025428013711360), Cond.methodLink RX0 61 yX1_ofSize, Cond.static yX1_ofSize, Cond.code yX1_ofSize cX1_ofSize 5 (some .long), Cond.constantDouble RX1 65 (4841369599423283200), Cond.methodLink RX1 57 yX2_floorFromOne, Cond.static yX2_floorFromOne, Cond.code yX2_floorFromOne cX2_floorFromOne 6 (some .int), Cond.methodLink RX1 61 yX2_floorBelowOne, Cond.static yX2_floorBelowOne, Cond.code yX2_floorBelowOne cX2_floorBelowOne 7 (some .int), Cond.methodLink RX0 64 yX1_withSignOf, Cond.static yX1_withSignOf, Cond.code yX1_withSignOf cX1_withSignOf 4 (some .long), Cond.constantLong RX1 13 (-9223372036854775808), Cond.methodLink RX0 67 yX5_whole, Cond.static yX5_whole, Cond.initialized RX5, Cond.code yX5_whole cX5_whole 8 (some .long), Cond.constantLong RX5 11 (9223372036854775807), Cond.constantLong RX5 13 (4841369599423283200)]
def wsX6_gap_r4 : List Cond := [Cond.constantLong RX5 19 (2), Cond.methodLink RX5 15 yX1_valueOfSize, Cond.methodLink RX5 21 yX5_growsInSize, Cond.static yX5_growsInSize, Cond.code yX5_growsInSize cX5_growsInSize 5 (some .boolean), Cond.constantDouble RX5 33 (4602678819172646912), Cond.methodLink RX5 25 yX1_ofSize, Cond.methodLink RX5 29 yX1_withSignOf, Cond.methodLink RX6 109 yX1_value, Cond.static yX1_value, Cond.code yX1_value cX1_value 4 (some .double), Cond.methodLink RX1 31 yX1_valueOfSize]
def wsX6_gap : List Cond := .code yX6_gap cX6_gap 3 (some .int) :: ((wsX6_gap_r1 ++ (wsX6_gap_r2 ++ (wsX6_gap_r3 ++ wsX6_gap_r4))) ++ wsX60 ++ wsX00)
def wsX6_rise_r1 : List Cond := [Cond.fieldLink RX6 18 "SnapTable" "heights" "LSnapTable$Axis;", Cond.methodLink RX6 161 Lib.MathLoose.abs_long.x, Cond.static Lib.MathLoose.abs_long.x, Cond.initialized "java/lang/Math", Cond.code Lib.MathLoose.abs_long.x Lib.MathLoose.abs_long.code 2 (some .long), Cond.methodLink RX6 42 yX6_isPoint, Cond.static yX6_isPoint, Cond.initialized RX6, Cond.code yX6_isPoint cX6_isPoint 1 (some .boolean), Cond.methodLink RX6 153 yX6_markAt, Cond.instanceMethod yX6_markAt, Cond.selects RX6 yX6_markAt yX6_markAt, Cond.code yX6_markAt cX6_markAt 3 (some .long), Cond.methodLink RX6 189 yX0_wholeSteps, Cond.instanceMethod yX0_wholeSteps, Cond.selects RX0 yX0_wholeSteps yX0_wholeSteps, Cond.initialized RX0, Cond.code yX0_wholeSteps cX0_wholeSteps 10 (some .long), Cond.fieldLink RX0 30 "SnapTable$Axis" "step" "J", Cond.fieldLink RX0 33 "SnapTable$Axis" "slim" "Z", Cond.methodLink RX0 58 yX1_valueOfSize, Cond.static yX1_valueOfSize, Cond.initialized RX1, Cond.code yX1_valueOfSize cX1_valueOfSize 5 (some .double)]
def wsX6_rise_r2 : List Cond := [Cond.constantLong RX1 9 (9223372036854775807), Cond.constantLong RX1 45 (4503599627370495), Cond.constantDouble RX1 47 (4372995238176751616), Cond.methodLink RX1 35 yX1_isInfinite, Cond.static yX1_isInfinite, Cond.code yX1_isInfinite cX1_isInfinite 2 (some .boolean), Cond.constantLong RX1 11 (9218868437227405312), Cond.methodLink RX1 39 yX2_beyondAll, Cond.static yX2_beyondAll, Cond.initialized RX2, Cond.code yX2_beyondAll cX2_beyondAll 0 (some .double), Cond.constantDouble RX2 27 (9218868437227405312), Cond.methodLink RX1 49 yX2_scaled, Cond.static yX2_scaled, Cond.code yX2_scaled cX2_scaled 7 (some .double), Cond.methodLink RX2 31 yX2_leap, Cond.static yX2_leap, Cond.code yX2_leap cX2_leap 1 (some .double), Cond.constantDouble RX2 7 (4611686018427387904), Cond.constantDouble RX2 9 (4616189618054758400), Cond.constantDouble RX2 11 (4625196817309499392), Cond.constantDouble RX2 13 (4643211215818981376), Cond.constantDouble RX2 15 (4679240012837945344), Cond.constantDouble RX2 17 (4751297606875873280)]
def wsX6_rise_r3 : List Cond := [Cond.constantDouble RX2 19 (4895412794951729152), Cond.constantDouble RX2 21 (5183643171103440896), Cond.constantDouble RX2 23 (5760103923406864384), Cond.constantDouble RX2 25 (6913025428013711360), Cond.methodLink RX0 61 yX1_ofSize, Cond.static yX1_ofSize, Cond.code yX1_ofSize cX1_ofSize 5 (some .long), Cond.constantDouble RX1 65 (4841369599423283200), Cond.methodLink RX1 57 yX2_floorFromOne, Cond.static yX2_floorFromOne, Cond.code yX2_floorFromOne cX2_floorFromOne 6 (some .int), Cond.methodLink RX1 61 yX2_floorBelowOne, Cond.static yX2_floorBelowOne, Cond.code yX2_floorBelowOne cX2_floorBelowOne 7 (some .int), Cond.methodLink RX0 64 yX1_withSignOf, Cond.static yX1_withSignOf, Cond.code yX1_withSignOf cX1_withSignOf 4 (some .long), Cond.constantLong RX1 13 (-9223372036854775808), Cond.methodLink RX0 67 yX5_whole, Cond.static yX5_whole, Cond.initialized RX5, Cond.code yX5_whole cX5_whole 8 (some .long), Cond.constantLong RX5 11 (9223372036854775807), Cond.constantLong RX5 13 (4841369599423283200)]
def wsX6_rise_r4 : List Cond := [Cond.constantLong RX5 19 (2), Cond.methodLink RX5 15 yX1_valueOfSize, Cond.methodLink RX5 21 yX5_growsInSize, Cond.static yX5_growsInSize, Cond.code yX5_growsInSize cX5_growsInSize 5 (some .boolean), Cond.constantDouble RX5 33 (4602678819172646912), Cond.methodLink RX5 25 yX1_ofSize, Cond.methodLink RX5 29 yX1_withSignOf, Cond.methodLink RX6 109 yX1_value, Cond.static yX1_value, Cond.code yX1_value cX1_value 4 (some .double), Cond.methodLink RX1 31 yX1_valueOfSize]
def wsX6_rise : List Cond := .code yX6_rise cX6_rise 3 (some .long) :: ((wsX6_rise_r1 ++ (wsX6_rise_r2 ++ (wsX6_rise_r3 ++ wsX6_rise_r4))) ++ wsX60 ++ wsX00)
def wsX6_edge_r1 : List Cond := [Cond.fieldLink RX6 12 "SnapTable" "widths" "LSnapTable$Axis;", Cond.methodLink RX6 95 yX6_isEnd, Cond.static yX6_isEnd, Cond.initialized RX6, Cond.code yX6_isEnd cX6_isEnd 1 (some .boolean), Cond.methodLink RX6 163 yX0_outermost, Cond.instanceMethod yX0_outermost, Cond.selects RX0 yX0_outermost yX0_outermost, Cond.initialized RX0, Cond.code yX0_outermost cX0_outermost 5 (some .long), Cond.fieldLink RX0 9 "SnapTable$Axis" "at" "[J", Cond.methodLink RX0 76 yX1_outer, Cond.static yX1_outer, Cond.initialized RX1, Cond.code yX1_outer cX1_outer 5 (some .long), Cond.methodLink RX1 25 yX1_greater, Cond.static yX1_greater, Cond.code yX1_greater cX1_greater 4 (some .long), Cond.methodLink RX1 21 yX1_rank, Cond.static yX1_rank, Cond.code yX1_rank cX1_rank 2 (some .long), Cond.constantLong RX1 9 (9223372036854775807), Cond.methodLink RX1 28 yX1_lesser, Cond.static yX1_lesser]
def wsX6_edge_r2 : List Cond := [Cond.code yX1_lesser cX1_lesser 4 (some .long)]
def wsX6_edge : List Cond := .code yX6_edge cX6_edge 2 (some .long) :: ((wsX6_edge_r1 ++ wsX6_edge_r2) ++ wsX60 ++ wsX00)
def wsX6_rim_r1 : List Cond := [Cond.fieldLink RX6 18 "SnapTable" "heights" "LSnapTable$Axis;", Cond.methodLink RX6 95 yX6_isEnd, Cond.static yX6_isEnd, Cond.initialized RX6, Cond.code yX6_isEnd cX6_isEnd 1 (some .boolean), Cond.methodLink RX6 163 yX0_outermost, Cond.instanceMethod yX0_outermost, Cond.selects RX0 yX0_outermost yX0_outermost, Cond.initialized RX0, Cond.code yX0_outermost cX0_outermost 5 (some .long), Cond.fieldLink RX0 9 "SnapTable$Axis" "at" "[J", Cond.methodLink RX0 76 yX1_outer, Cond.static yX1_outer, Cond.initialized RX1, Cond.code yX1_outer cX1_outer 5 (some .long), Cond.methodLink RX1 25 yX1_greater, Cond.static yX1_greater, Cond.code yX1_greater cX1_greater 4 (some .long), Cond.methodLink RX1 21 yX1_rank, Cond.static yX1_rank, Cond.code yX1_rank cX1_rank 2 (some .long), Cond.constantLong RX1 9 (9223372036854775807), Cond.methodLink RX1 28 yX1_lesser, Cond.static yX1_lesser]
def wsX6_rim_r2 : List Cond := [Cond.code yX1_lesser cX1_lesser 4 (some .long), Cond.methodLink RX6 136 yX3_narrowed, Cond.static yX3_narrowed, Cond.initialized RX3, Cond.code yX3_narrowed cX3_narrowed 5 (some .int), Cond.constant RX3 26 (-2147483648), Cond.constantLong RX3 27 (9223372036854775807), Cond.constantLong RX3 29 (4039728865751334912), Cond.constantDouble RX3 35 (5278218763278221312), Cond.constantLong RX3 24 (4035225266123964416), Cond.methodLink RX3 31 yX1_valueOfSize, Cond.static yX1_valueOfSize, Cond.code yX1_valueOfSize cX1_valueOfSize 5 (some .double), Cond.constantLong RX1 45 (4503599627370495), Cond.constantDouble RX1 47 (4372995238176751616), Cond.methodLink RX1 35 yX1_isInfinite, Cond.static yX1_isInfinite, Cond.code yX1_isInfinite cX1_isInfinite 2 (some .boolean), Cond.constantLong RX1 11 (9218868437227405312), Cond.methodLink RX1 39 yX2_beyondAll, Cond.static yX2_beyondAll, Cond.initialized RX2, Cond.code yX2_beyondAll cX2_beyondAll 0 (some .double), Cond.constantDouble RX2 27 (9218868437227405312)]
def wsX6_rim_r3 : List Cond := [Cond.methodLink RX1 49 yX2_scaled, Cond.static yX2_scaled, Cond.code yX2_scaled cX2_scaled 7 (some .double), Cond.methodLink RX2 31 yX2_leap, Cond.static yX2_leap, Cond.code yX2_leap cX2_leap 1 (some .double), Cond.constantDouble RX2 7 (4611686018427387904), Cond.constantDouble RX2 9 (4616189618054758400), Cond.constantDouble RX2 11 (4625196817309499392), Cond.constantDouble RX2 13 (4643211215818981376), Cond.constantDouble RX2 15 (4679240012837945344), Cond.constantDouble RX2 17 (4751297606875873280), Cond.constantDouble RX2 19 (4895412794951729152), Cond.constantDouble RX2 21 (5183643171103440896), Cond.constantDouble RX2 23 (5760103923406864384), Cond.constantDouble RX2 25 (6913025428013711360)]
def wsX6_rim : List Cond := .code yX6_rim cX6_rim 2 (some .int) :: ((wsX6_rim_r1 ++ (wsX6_rim_r2 ++ wsX6_rim_r3)) ++ wsX60 ++ wsX00)
def wsX6_neighbour_r1 : List Cond := [Cond.methodLink RX6 42 yX6_isPoint, Cond.static yX6_isPoint, Cond.initialized RX6, Cond.code yX6_isPoint cX6_isPoint 1 (some .boolean), Cond.methodLink RX6 142 yX6_distance, Cond.instanceMethod yX6_distance, Cond.selects RX6 yX6_distance yX6_distance, Cond.code yX6_distance cX6_distance 7 (some .double), Cond.fieldLink RX6 12 "SnapTable" "widths" "LSnapTable$Axis;", Cond.fieldLink RX6 18 "SnapTable" "heights" "LSnapTable$Axis;", Cond.methodLink RX6 117 yX0_apart, Cond.instanceMethod yX0_apart, Cond.selects RX0 yX0_apart yX0_apart, Cond.initialized RX0, Cond.code yX0_apart cX0_apart 11 (some .double), Cond.fieldLink RX0 33 "SnapTable$Axis" "slim" "Z", Cond.methodLink RX0 48 yX1_value, Cond.static yX1_value, Cond.initialized RX1, Cond.code yX1_value cX1_value 4 (some .double), Cond.methodLink RX1 31 yX1_valueOfSize, Cond.static yX1_valueOfSize, Cond.code yX1_valueOfSize cX1_valueOfSize 5 (some .double), Cond.constantLong RX1 9 (9223372036854775807)]
def wsX6_neighbour_r2 : List Cond := [Cond.constantLong RX1 45 (4503599627370495), Cond.constantDouble RX1 47 (4372995238176751616), Cond.methodLink RX1 35 yX1_isInfinite, Cond.static yX1_isInfinite, Cond.code yX1_isInfinite cX1_isInfinite 2 (some .boolean), Cond.constantLong RX1 11 (9218868437227405312), Cond.methodLink RX1 39 yX2_beyondAll, Cond.static yX2_beyondAll, Cond.initialized RX2, Cond.code yX2_beyondAll cX2_beyondAll 0 (some .double), Cond.constantDouble RX2 27 (9218868437227405312), Cond.methodLink RX1 49 yX2_scaled, Cond.static yX2_scaled, Cond.code yX2_scaled cX2_scaled 7 (some .double), Cond.methodLink RX2 31 yX2_leap, Cond.static yX2_leap, Cond.code yX2_leap cX2_leap 1 (some .double), Cond.constantDouble RX2 7 (4611686018427387904), Cond.constantDouble RX2 9 (4616189618054758400), Cond.constantDouble RX2 11 (4625196817309499392), Cond.constantDouble RX2 13 (4643211215818981376), Cond.constantDouble RX2 15 (4679240012837945344), Cond.constantDouble RX2 17 (4751297606875873280), Cond.constantDouble RX2 19 (4895412794951729152)]
def wsX6_neighbour_r3 : List Cond := [Cond.constantDouble RX2 21 (5183643171103440896), Cond.constantDouble RX2 23 (5760103923406864384), Cond.constantDouble RX2 25 (6913025428013711360)]
def wsX6_neighbour : List Cond := .code yX6_neighbour cX6_neighbour 8 (some .int) :: ((wsX6_neighbour_r1 ++ (wsX6_neighbour_r2 ++ wsX6_neighbour_r3)) ++ wsX60 ++ wsX00)
def wsX6_column_r1 : List Cond := [Cond.fieldLink RX6 12 "SnapTable" "widths" "LSnapTable$Axis;", Cond.methodLink RX6 95 yX6_isEnd, Cond.static yX6_isEnd, Cond.initialized RX6, Cond.code yX6_isEnd cX6_isEnd 1 (some .boolean), Cond.methodLink RX6 163 yX0_outermost, Cond.instanceMethod yX0_outermost, Cond.selects RX0 yX0_outermost yX0_outermost, Cond.initialized RX0, Cond.code yX0_outermost cX0_outermost 5 (some .long), Cond.fieldLink RX0 9 "SnapTable$Axis" "at" "[J", Cond.methodLink RX0 76 yX1_outer, Cond.static yX1_outer, Cond.initialized RX1, Cond.code yX1_outer cX1_outer 5 (some .long), Cond.methodLink RX1 25 yX1_greater, Cond.static yX1_greater, Cond.code yX1_greater cX1_greater 4 (some .long), Cond.methodLink RX1 21 yX1_rank, Cond.static yX1_rank, Cond.code yX1_rank cX1_rank 2 (some .long), Cond.constantLong RX1 9 (9223372036854775807), Cond.methodLink RX1 28 yX1_lesser, Cond.static yX1_lesser]
def wsX6_column_r2 : List Cond := [Cond.code yX1_lesser cX1_lesser 4 (some .long), Cond.methodLink RX6 150 yX6_cellAt, Cond.instanceMethod yX6_cellAt, Cond.selects RX6 yX6_cellAt yX6_cellAt, Cond.code yX6_cellAt cX6_cellAt 3 (some .int), Cond.methodLink RX6 189 yX0_wholeSteps, Cond.instanceMethod yX0_wholeSteps, Cond.selects RX0 yX0_wholeSteps yX0_wholeSteps, Cond.code yX0_wholeSteps cX0_wholeSteps 10 (some .long), Cond.fieldLink RX0 30 "SnapTable$Axis" "step" "J", Cond.fieldLink RX0 33 "SnapTable$Axis" "slim" "Z", Cond.methodLink RX0 58 yX1_valueOfSize, Cond.static yX1_valueOfSize, Cond.code yX1_valueOfSize cX1_valueOfSize 5 (some .double), Cond.constantLong RX1 45 (4503599627370495), Cond.constantDouble RX1 47 (4372995238176751616), Cond.methodLink RX1 35 yX1_isInfinite, Cond.static yX1_isInfinite, Cond.code yX1_isInfinite cX1_isInfinite 2 (some .boolean), Cond.constantLong RX1 11 (9218868437227405312), Cond.methodLink RX1 39 yX2_beyondAll, Cond.static yX2_beyondAll, Cond.initialized RX2, Cond.code yX2_beyondAll cX2_beyondAll 0 (some .double)]
def wsX6_column_r3 : List Cond := [Cond.constantDouble RX2 27 (9218868437227405312), Cond.methodLink RX1 49 yX2_scaled, Cond.static yX2_scaled, Cond.code yX2_scaled cX2_scaled 7 (some .double), Cond.methodLink RX2 31 yX2_leap, Cond.static yX2_leap, Cond.code yX2_leap cX2_leap 1 (some .double), Cond.constantDouble RX2 7 (4611686018427387904), Cond.constantDouble RX2 9 (4616189618054758400), Cond.constantDouble RX2 11 (4625196817309499392), Cond.constantDouble RX2 13 (4643211215818981376), Cond.constantDouble RX2 15 (4679240012837945344), Cond.constantDouble RX2 17 (4751297606875873280), Cond.constantDouble RX2 19 (4895412794951729152), Cond.constantDouble RX2 21 (5183643171103440896), Cond.constantDouble RX2 23 (5760103923406864384), Cond.constantDouble RX2 25 (6913025428013711360), Cond.methodLink RX0 61 yX1_ofSize, Cond.static yX1_ofSize, Cond.code yX1_ofSize cX1_ofSize 5 (some .long), Cond.constantDouble RX1 65 (4841369599423283200), Cond.methodLink RX1 57 yX2_floorFromOne, Cond.static yX2_floorFromOne, Cond.code yX2_floorFromOne cX2_floorFromOne 6 (some .int)]
def wsX6_column_r4 : List Cond := [Cond.methodLink RX1 61 yX2_floorBelowOne, Cond.static yX2_floorBelowOne, Cond.code yX2_floorBelowOne cX2_floorBelowOne 7 (some .int), Cond.methodLink RX0 64 yX1_withSignOf, Cond.static yX1_withSignOf, Cond.code yX1_withSignOf cX1_withSignOf 4 (some .long), Cond.constantLong RX1 13 (-9223372036854775808), Cond.methodLink RX0 67 yX5_whole, Cond.static yX5_whole, Cond.initialized RX5, Cond.code yX5_whole cX5_whole 8 (some .long), Cond.constantLong RX5 11 (9223372036854775807), Cond.constantLong RX5 13 (4841369599423283200), Cond.constantLong RX5 19 (2), Cond.methodLink RX5 15 yX1_valueOfSize, Cond.methodLink RX5 21 yX5_growsInSize, Cond.static yX5_growsInSize, Cond.code yX5_growsInSize cX5_growsInSize 5 (some .boolean), Cond.constantDouble RX5 33 (4602678819172646912), Cond.methodLink RX5 25 yX1_ofSize, Cond.methodLink RX5 29 yX1_withSignOf, Cond.methodLink RX6 109 yX1_value, Cond.static yX1_value, Cond.code yX1_value cX1_value 4 (some .double)]
def wsX6_column_r5 : List Cond := [Cond.methodLink RX1 31 yX1_valueOfSize]
def wsX6_column : List Cond := .code yX6_column cX6_column 2 (some .int) :: ((wsX6_column_r1 ++ (wsX6_column_r2 ++ (wsX6_column_r3 ++ (wsX6_column_r4 ++ wsX6_column_r5)))) ++ wsX60 ++ wsX00)
def wsX6_row_r1 : List Cond := [Cond.fieldLink RX6 18 "SnapTable" "heights" "LSnapTable$Axis;", Cond.methodLink RX6 95 yX6_isEnd, Cond.static yX6_isEnd, Cond.initialized RX6, Cond.code yX6_isEnd cX6_isEnd 1 (some .boolean), Cond.methodLink RX6 163 yX0_outermost, Cond.instanceMethod yX0_outermost, Cond.selects RX0 yX0_outermost yX0_outermost, Cond.initialized RX0, Cond.code yX0_outermost cX0_outermost 5 (some .long), Cond.fieldLink RX0 9 "SnapTable$Axis" "at" "[J", Cond.methodLink RX0 76 yX1_outer, Cond.static yX1_outer, Cond.initialized RX1, Cond.code yX1_outer cX1_outer 5 (some .long), Cond.methodLink RX1 25 yX1_greater, Cond.static yX1_greater, Cond.code yX1_greater cX1_greater 4 (some .long), Cond.methodLink RX1 21 yX1_rank, Cond.static yX1_rank, Cond.code yX1_rank cX1_rank 2 (some .long), Cond.constantLong RX1 9 (9223372036854775807), Cond.methodLink RX1 28 yX1_lesser, Cond.static yX1_lesser]
def wsX6_row_r2 : List Cond := [Cond.code yX1_lesser cX1_lesser 4 (some .long), Cond.methodLink RX6 153 yX6_markAt, Cond.instanceMethod yX6_markAt, Cond.selects RX6 yX6_markAt yX6_markAt, Cond.code yX6_markAt cX6_markAt 3 (some .long), Cond.methodLink RX6 189 yX0_wholeSteps, Cond.instanceMethod yX0_wholeSteps, Cond.selects RX0 yX0_wholeSteps yX0_wholeSteps, Cond.code yX0_wholeSteps cX0_wholeSteps 10 (some .long), Cond.fieldLink RX0 30 "SnapTable$Axis" "step" "J", Cond.fieldLink RX0 33 "SnapTable$Axis" "slim" "Z", Cond.methodLink RX0 58 yX1_valueOfSize, Cond.static yX1_valueOfSize, Cond.code yX1_valueOfSize cX1_valueOfSize 5 (some .double), Cond.constantLong RX1 45 (4503599627370495), Cond.constantDouble RX1 47 (4372995238176751616), Cond.methodLink RX1 35 yX1_isInfinite, Cond.static yX1_isInfinite, Cond.code yX1_isInfinite cX1_isInfinite 2 (some .boolean), Cond.constantLong RX1 11 (9218868437227405312), Cond.methodLink RX1 39 yX2_beyondAll, Cond.static yX2_beyondAll, Cond.initialized RX2, Cond.code yX2_beyondAll cX2_beyondAll 0 (some .double)]
def wsX6_row_r3 : List Cond := [Cond.constantDouble RX2 27 (9218868437227405312), Cond.methodLink RX1 49 yX2_scaled, Cond.static yX2_scaled, Cond.code yX2_scaled cX2_scaled 7 (some .double), Cond.methodLink RX2 31 yX2_leap, Cond.static yX2_leap, Cond.code yX2_leap cX2_leap 1 (some .double), Cond.constantDouble RX2 7 (4611686018427387904), Cond.constantDouble RX2 9 (4616189618054758400), Cond.constantDouble RX2 11 (4625196817309499392), Cond.constantDouble RX2 13 (4643211215818981376), Cond.constantDouble RX2 15 (4679240012837945344), Cond.constantDouble RX2 17 (4751297606875873280), Cond.constantDouble RX2 19 (4895412794951729152), Cond.constantDouble RX2 21 (5183643171103440896), Cond.constantDouble RX2 23 (5760103923406864384), Cond.constantDouble RX2 25 (6913025428013711360), Cond.methodLink RX0 61 yX1_ofSize, Cond.static yX1_ofSize, Cond.code yX1_ofSize cX1_ofSize 5 (some .long), Cond.constantDouble RX1 65 (4841369599423283200), Cond.methodLink RX1 57 yX2_floorFromOne, Cond.static yX2_floorFromOne, Cond.code yX2_floorFromOne cX2_floorFromOne 6 (some .int)]
def wsX6_row_r4 : List Cond := [Cond.methodLink RX1 61 yX2_floorBelowOne, Cond.static yX2_floorBelowOne, Cond.code yX2_floorBelowOne cX2_floorBelowOne 7 (some .int), Cond.methodLink RX0 64 yX1_withSignOf, Cond.static yX1_withSignOf, Cond.code yX1_withSignOf cX1_withSignOf 4 (some .long), Cond.constantLong RX1 13 (-9223372036854775808), Cond.methodLink RX0 67 yX5_whole, Cond.static yX5_whole, Cond.initialized RX5, Cond.code yX5_whole cX5_whole 8 (some .long), Cond.constantLong RX5 11 (9223372036854775807), Cond.constantLong RX5 13 (4841369599423283200), Cond.constantLong RX5 19 (2), Cond.methodLink RX5 15 yX1_valueOfSize, Cond.methodLink RX5 21 yX5_growsInSize, Cond.static yX5_growsInSize, Cond.code yX5_growsInSize cX5_growsInSize 5 (some .boolean), Cond.constantDouble RX5 33 (4602678819172646912), Cond.methodLink RX5 25 yX1_ofSize, Cond.methodLink RX5 29 yX1_withSignOf, Cond.methodLink RX6 109 yX1_value, Cond.static yX1_value, Cond.code yX1_value cX1_value 4 (some .double)]
def wsX6_row_r5 : List Cond := [Cond.methodLink RX1 31 yX1_valueOfSize]
def wsX6_row : List Cond := .code yX6_row cX6_row 2 (some .long) :: ((wsX6_row_r1 ++ (wsX6_row_r2 ++ (wsX6_row_r3 ++ (wsX6_row_r4 ++ wsX6_row_r5)))) ++ wsX60 ++ wsX00)
def wsX6_count : List Cond := .code yX6_count cX6_count 2 (some .int) :: ([.fieldLink RX6 166 "SnapTable" "done" "I", .fieldLink RX6 169 "SnapTable" "refused" "I", .fieldLink RX6 172 "SnapTable" "met" "I", .fieldLink RX6 24 "SnapTable" "trail" "LSnapTable$Trail;"] ++ wsX60 ++ wsX40)
def wsX7_init_r1 : List Cond := [Cond.methodLink RX7 1 objectInit, Cond.instanceMethod objectInit, Cond.code objectInit ⟨#[0xb1]⟩ 1 none, Cond.arrayClass .long, Cond.fieldLink RX7 7 "SnapTableModel" "xs" "[J", Cond.arrayClass .int, Cond.fieldLink RX7 13 "SnapTableModel" "ys" "[I", Cond.constantLong RX7 17 (-4503599627370496), Cond.fieldLink RX7 19 "SnapTableModel" "left" "J", Cond.constantLong RX7 23 (9218868437227405312), Cond.fieldLink RX7 25 "SnapTableModel" "right" "J", Cond.constantLong RX7 28 (4607182418800017408), Cond.fieldLink RX7 30 "SnapTableModel" "step" "J", Cond.constant RX7 33 (-8388608), Cond.fieldLink RX7 34 "SnapTableModel" "low" "I", Cond.constant RX7 38 (2139095040), Cond.fieldLink RX7 39 "SnapTableModel" "high" "I", Cond.constant RX7 42 (1065353216), Cond.fieldLink RX7 43 "SnapTableModel" "grain" "I", Cond.fieldLink RX7 46 "SnapTableModel" "guideAt" "[J", Cond.arrayClass .boolean, Cond.fieldLink RX7 49 "SnapTableModel" "guideOn" "[Z", Cond.fieldLink RX7 53 "SnapTableModel" "trailPoint" "[I", Cond.fieldLink RX7 56 "SnapTableModel" "trailX" "[J"]
def wsX7_init_r2 : List Cond := [Cond.fieldLink RX7 59 "SnapTableModel" "trailY" "[I"]
def wsX7_init : List Cond := .code yX7_init cX7_init 1 none :: ((wsX7_init_r1 ++ wsX7_init_r2) ++ wsX70)
def wsX7_of : List Cond := .code yX7_of cX7_of 2 (some .double) :: ([.methodLink RX7 62 ⟨"java/lang/Double", "longBitsToDouble", "(J)D"⟩, .native ⟨"java/lang/Double", "longBitsToDouble", "(J)D"⟩, .static ⟨"java/lang/Double", "longBitsToDouble", "(J)D"⟩, .initialized "java/lang/Double"])
def wsJxe99ae_isNaN_b9ae7 : List Cond := .code yJxe99ae_isNaN_b9ae7 cJxe99ae_isNaN_b9ae7 2 (some .boolean) :: ([])
def wsJxe99ae_doubleToLongBits_ccdee : List Cond := .code yJxe99ae_doubleToLongBits_ccdee cJxe99ae_doubleToLongBits_ccdee 2 (some .long) :: ([.methodLink RJxe99ae 134 ⟨"java/lang/Double", "doubleToRawLongBits", "(D)J"⟩, .native ⟨"java/lang/Double", "doubleToRawLongBits", "(D)J"⟩, .static ⟨"java/lang/Double", "doubleToRawLongBits", "(D)J"⟩, .initialized "java/lang/Double", .constantLong RJxe99ae 137 (9221120237041090560), .methodLink RJxe99ae 122 yJxe99ae_isNaN_b9ae7, .static yJxe99ae_isNaN_b9ae7, .initialized RJxe99ae, .code yJxe99ae_isNaN_b9ae7 cJxe99ae_isNaN_b9ae7 2 (some .boolean)])
def wsX7_bits : List Cond := .code yX7_bits cX7_bits 2 (some .long) :: ([.methodLink RX7 68 yJxe99ae_doubleToLongBits_ccdee, .static yJxe99ae_doubleToLongBits_ccdee, .initialized RJxe99ae, .code yJxe99ae_doubleToLongBits_ccdee cJxe99ae_doubleToLongBits_ccdee 2 (some .long), .methodLink RJxe99ae 134 ⟨"java/lang/Double", "doubleToRawLongBits", "(D)J"⟩, .native ⟨"java/lang/Double", "doubleToRawLongBits", "(D)J"⟩, .static ⟨"java/lang/Double", "doubleToRawLongBits", "(D)J"⟩, .initialized "java/lang/Double", .constantLong RJxe99ae 137 (9221120237041090560), .methodLink RJxe99ae 122 yJxe99ae_isNaN_b9ae7, .static yJxe99ae_isNaN_b9ae7, .code yJxe99ae_isNaN_b9ae7 cJxe99ae_isNaN_b9ae7 2 (some .boolean)])
def wsX7_size : List Cond := .code yX7_size cX7_size 2 (some .long) :: ([.constantLong RX7 72 (9223372036854775807)])
def wsX7_isNone : List Cond := .code yX7_isNone cX7_isNone 2 (some .boolean) :: ([.constantLong RX7 23 (9218868437227405312), .methodLink RX7 74 yX7_size, .static yX7_size, .initialized RX7, .code yX7_size cX7_size 2 (some .long), .constantLong RX7 72 (9223372036854775807)])
def wsX7_isInfinite : List Cond := .code yX7_isInfinite cX7_isInfinite 2 (some .boolean) :: ([.constantLong RX7 23 (9218868437227405312), .methodLink RX7 74 yX7_size, .static yX7_size, .initialized RX7, .code yX7_size cX7_size 2 (some .long), .constantLong RX7 72 (9223372036854775807)])
def wsX7_order : List Cond := .code yX7_order cX7_order 2 (some .long) :: ([.constantLong RX7 78 (-1), .methodLink RX7 74 yX7_size, .static yX7_size, .initialized RX7, .code yX7_size cX7_size 2 (some .long), .constantLong RX7 72 (9223372036854775807)])
def wsX7_lesser : List Cond := .code yX7_lesser cX7_lesser 4 (some .long) :: ([.methodLink RX7 80 yX7_order, .static yX7_order, .initialized RX7, .code yX7_order cX7_order 2 (some .long), .constantLong RX7 78 (-1), .methodLink RX7 74 yX7_size, .static yX7_size, .code yX7_size cX7_size 2 (some .long), .constantLong RX7 72 (9223372036854775807)])
def wsX7_greater : List Cond := .code yX7_greater cX7_greater 4 (some .long) :: ([.methodLink RX7 80 yX7_order, .static yX7_order, .initialized RX7, .code yX7_order cX7_order 2 (some .long), .constantLong RX7 78 (-1), .methodLink RX7 74 yX7_size, .static yX7_size, .code yX7_size cX7_size 2 (some .long), .constantLong RX7 72 (9223372036854775807)])
def wsX7_isBelow : List Cond := .code yX7_isBelow cX7_isBelow 4 (some .boolean) :: ([.methodLink RX7 80 yX7_order, .static yX7_order, .initialized RX7, .code yX7_order cX7_order 2 (some .long), .constantLong RX7 78 (-1), .methodLink RX7 74 yX7_size, .static yX7_size, .code yX7_size cX7_size 2 (some .long), .constantLong RX7 72 (9223372036854775807)])
def wsX7_isOdd : List Cond := .code yX7_isOdd cX7_isOdd 3 (some .boolean) :: ([])
def wsX7_whole : List Cond := .code yX7_whole cX7_whole 15 (some .long) :: ([.constantLong RX7 83 (-9223372036854775808), .constantLong RX7 85 (4602678819172646912), .constantLong RX7 28 (4607182418800017408), .constantLong RX7 87 (2), .methodLink RX7 74 yX7_size, .static yX7_size, .initialized RX7, .code yX7_size cX7_size 2 (some .long), .constantLong RX7 72 (9223372036854775807), .methodLink RX7 89 yX7_isOdd, .static yX7_isOdd, .code yX7_isOdd cX7_isOdd 3 (some .boolean)])
def wsX7_whole32 : List Cond := .code yX7_whole32 cX7_whole32 2 (some .int) :: ([.constantDouble RX7 93 (4746794007244308480), .constant RX7 95 (2147483647), .constantDouble RX7 96 (13970166044103278592), .constant RX7 98 (-2147483648)])
def wsX7_of4 : List Cond := .code yX7_of4 cX7_of4 1 (some .float) :: ([.methodLink RX7 99 ⟨"java/lang/Float", "intBitsToFloat", "(I)F"⟩, .native ⟨"java/lang/Float", "intBitsToFloat", "(I)F"⟩, .static ⟨"java/lang/Float", "intBitsToFloat", "(I)F"⟩, .initialized "java/lang/Float"])
def wsJxf58ca_isNaN_12338 : List Cond := .code yJxf58ca_isNaN_12338 cJxf58ca_isNaN_12338 1 (some .boolean) :: ([])
def wsJxf58ca_floatToIntBits_5c35a : List Cond := .code yJxf58ca_floatToIntBits_5c35a cJxf58ca_floatToIntBits_5c35a 1 (some .int) :: ([.methodLink RJxf58ca 74 ⟨"java/lang/Float", "floatToRawIntBits", "(F)I"⟩, .native ⟨"java/lang/Float", "floatToRawIntBits", "(F)I"⟩, .static ⟨"java/lang/Float", "floatToRawIntBits", "(F)I"⟩, .initialized "java/lang/Float", .constant RJxf58ca 77 (2143289344), .methodLink RJxf58ca 59 yJxf58ca_isNaN_12338, .static yJxf58ca_isNaN_12338, .initialized RJxf58ca, .code yJxf58ca_isNaN_12338 cJxf58ca_isNaN_12338 1 (some .boolean)])
def wsX7_bits4 : List Cond := .code yX7_bits4 cX7_bits4 1 (some .int) :: ([.methodLink RX7 105 yJxf58ca_floatToIntBits_5c35a, .static yJxf58ca_floatToIntBits_5c35a, .initialized RJxf58ca, .code yJxf58ca_floatToIntBits_5c35a cJxf58ca_floatToIntBits_5c35a 1 (some .int), .methodLink RJxf58ca 74 ⟨"java/lang/Float", "floatToRawIntBits", "(F)I"⟩, .native ⟨"java/lang/Float", "floatToRawIntBits", "(F)I"⟩, .static ⟨"java/lang/Float", "floatToRawIntBits", "(F)I"⟩, .initialized "java/lang/Float", .constant RJxf58ca 77 (2143289344), .methodLink RJxf58ca 59 yJxf58ca_isNaN_12338, .static yJxf58ca_isNaN_12338, .code yJxf58ca_isNaN_12338 cJxf58ca_isNaN_12338 1 (some .boolean)])
def wsX7_size4 : List Cond := .code yX7_size4 cX7_size4 1 (some .int) :: ([.constant RX7 95 (2147483647)])
def wsX7_isNone4 : List Cond := .code yX7_isNone4 cX7_isNone4 1 (some .boolean) :: ([.constant RX7 38 (2139095040), .methodLink RX7 109 yX7_size4, .static yX7_size4, .initialized RX7, .code yX7_size4 cX7_size4 1 (some .int), .constant RX7 95 (2147483647)])
def wsX7_isInfinite4 : List Cond := .code yX7_isInfinite4 cX7_isInfinite4 1 (some .boolean) :: ([.constant RX7 38 (2139095040), .methodLink RX7 109 yX7_size4, .static yX7_size4, .initialized RX7, .code yX7_size4 cX7_size4 1 (some .int), .constant RX7 95 (2147483647)])
def wsX7_order4 : List Cond := .code yX7_order4 cX7_order4 1 (some .int) :: ([.methodLink RX7 109 yX7_size4, .static yX7_size4, .initialized RX7, .code yX7_size4 cX7_size4 1 (some .int), .constant RX7 95 (2147483647)])
def wsX7_lesser4 : List Cond := .code yX7_lesser4 cX7_lesser4 2 (some .int) :: ([.methodLink RX7 113 yX7_order4, .static yX7_order4, .initialized RX7, .code yX7_order4 cX7_order4 1 (some .int), .methodLink RX7 109 yX7_size4, .static yX7_size4, .code yX7_size4 cX7_size4 1 (some .int), .constant RX7 95 (2147483647)])
def wsX7_greater4 : List Cond := .code yX7_greater4 cX7_greater4 2 (some .int) :: ([.methodLink RX7 113 yX7_order4, .static yX7_order4, .initialized RX7, .code yX7_order4 cX7_order4 1 (some .int), .methodLink RX7 109 yX7_size4, .static yX7_size4, .code yX7_size4 cX7_size4 1 (some .int), .constant RX7 95 (2147483647)])
def wsX7_isBelow4 : List Cond := .code yX7_isBelow4 cX7_isBelow4 2 (some .boolean) :: ([.methodLink RX7 113 yX7_order4, .static yX7_order4, .initialized RX7, .code yX7_order4 cX7_order4 1 (some .int), .methodLink RX7 109 yX7_size4, .static yX7_size4, .code yX7_size4 cX7_size4 1 (some .int), .constant RX7 95 (2147483647)])
def wsX7_whole4 : List Cond := .code yX7_whole4 cX7_whole4 9 (some .int) :: ([.constant RX7 98 (-2147483648), .constant RX7 116 (1056964608), .constant RX7 42 (1065353216), .methodLink RX7 109 yX7_size4, .static yX7_size4, .initialized RX7, .code yX7_size4 cX7_size4 1 (some .int), .constant RX7 95 (2147483647)])
def wsX7_whole64 : List Cond := .code yX7_whole64 cX7_whole64 1 (some .long) :: ([.constantFloat RX7 117 (1593835520), .constantLong RX7 72 (9223372036854775807), .constantFloat RX7 118 (3741319168), .constantLong RX7 83 (-9223372036854775808)])
def wsX7_isPoint : List Cond := .code yX7_isPoint cX7_isPoint 1 (some .boolean) :: ([])
def wsX7_refuses : List Cond := .code yX7_refuses cX7_refuses 2 (some .int) :: ([.fieldLink RX7 119 "SnapTableModel" "refused" "I"] ++ wsX70)
def wsX7_does : List Cond := .code yX7_does cX7_does 1 (some .int) :: ([.fieldLink RX7 122 "SnapTableModel" "done" "I"] ++ wsX70)
def wsX7_walled : List Cond := .code yX7_walled cX7_walled 3 (some .long) :: ([.fieldLink RX7 25 "SnapTableModel" "right" "J", .fieldLink RX7 19 "SnapTableModel" "left" "J", .methodLink RX7 125 yX7_lesser, .static yX7_lesser, .initialized RX7, .code yX7_lesser cX7_lesser 4 (some .long), .methodLink RX7 80 yX7_order, .static yX7_order, .code yX7_order cX7_order 2 (some .long), .constantLong RX7 78 (-1), .methodLink RX7 74 yX7_size, .static yX7_size, .code yX7_size cX7_size 2 (some .long), .constantLong RX7 72 (9223372036854775807), .methodLink RX7 129 yX7_greater, .static yX7_greater, .code yX7_greater cX7_greater 4 (some .long)] ++ wsX70)
def wsX7_railed : List Cond := .code yX7_railed cX7_railed 2 (some .int) :: ([.fieldLink RX7 39 "SnapTableModel" "high" "I", .fieldLink RX7 34 "SnapTableModel" "low" "I", .methodLink RX7 132 yX7_lesser4, .static yX7_lesser4, .initialized RX7, .code yX7_lesser4 cX7_lesser4 2 (some .int), .methodLink RX7 113 yX7_order4, .static yX7_order4, .code yX7_order4 cX7_order4 1 (some .int), .methodLink RX7 109 yX7_size4, .static yX7_size4, .code yX7_size4 cX7_size4 1 (some .int), .constant RX7 95 (2147483647), .methodLink RX7 136 yX7_greater4, .static yX7_greater4, .code yX7_greater4 cX7_greater4 2 (some .int)] ++ wsX70)
def wsX7_keeps : List Cond := .code yX7_keeps cX7_keeps 3 none :: ([.fieldLink RX7 53 "SnapTableModel" "trailPoint" "[I", .fieldLink RX7 139 "SnapTableModel" "trail" "I", .fieldLink RX7 56 "SnapTableModel" "trailX" "[J", .fieldLink RX7 7 "SnapTableModel" "xs" "[J", .fieldLink RX7 59 "SnapTableModel" "trailY" "[I", .fieldLink RX7 13 "SnapTableModel" "ys" "[I"] ++ wsX70)
def wsX7_comes_r1 : List Cond := [Cond.fieldLink RX7 163 "SnapTableModel" "met" "I", Cond.fieldLink RX7 7 "SnapTableModel" "xs" "[J", Cond.fieldLink RX7 13 "SnapTableModel" "ys" "[I", Cond.methodLink RX7 142 yX7_walled, Cond.instanceMethod yX7_walled, Cond.selects RX7 yX7_walled yX7_walled, Cond.initialized RX7, Cond.code yX7_walled cX7_walled 3 (some .long), Cond.fieldLink RX7 25 "SnapTableModel" "right" "J", Cond.fieldLink RX7 19 "SnapTableModel" "left" "J", Cond.methodLink RX7 125 yX7_lesser, Cond.static yX7_lesser, Cond.code yX7_lesser cX7_lesser 4 (some .long), Cond.methodLink RX7 80 yX7_order, Cond.static yX7_order, Cond.code yX7_order cX7_order 2 (some .long), Cond.constantLong RX7 78 (-1), Cond.methodLink RX7 74 yX7_size, Cond.static yX7_size, Cond.code yX7_size cX7_size 2 (some .long), Cond.constantLong RX7 72 (9223372036854775807), Cond.methodLink RX7 129 yX7_greater, Cond.static yX7_greater, Cond.code yX7_greater cX7_greater 4 (some .long)]
def wsX7_comes_r2 : List Cond := [Cond.methodLink RX7 145 yX7_railed, Cond.instanceMethod yX7_railed, Cond.selects RX7 yX7_railed yX7_railed, Cond.code yX7_railed cX7_railed 2 (some .int), Cond.fieldLink RX7 39 "SnapTableModel" "high" "I", Cond.fieldLink RX7 34 "SnapTableModel" "low" "I", Cond.methodLink RX7 132 yX7_lesser4, Cond.static yX7_lesser4, Cond.code yX7_lesser4 cX7_lesser4 2 (some .int), Cond.methodLink RX7 113 yX7_order4, Cond.static yX7_order4, Cond.code yX7_order4 cX7_order4 1 (some .int), Cond.methodLink RX7 109 yX7_size4, Cond.static yX7_size4, Cond.code yX7_size4 cX7_size4 1 (some .int), Cond.constant RX7 95 (2147483647), Cond.methodLink RX7 136 yX7_greater4, Cond.static yX7_greater4, Cond.code yX7_greater4 cX7_greater4 2 (some .int), Cond.methodLink RX7 148 yX7_isInfinite, Cond.static yX7_isInfinite, Cond.code yX7_isInfinite cX7_isInfinite 2 (some .boolean), Cond.constantLong RX7 23 (9218868437227405312), Cond.methodLink RX7 152 yX7_isInfinite4]
def wsX7_comes_r3 : List Cond := [Cond.static yX7_isInfinite4, Cond.code yX7_isInfinite4 cX7_isInfinite4 1 (some .boolean), Cond.constant RX7 38 (2139095040), Cond.methodLink RX7 156 yX7_refuses, Cond.instanceMethod yX7_refuses, Cond.selects RX7 yX7_refuses yX7_refuses, Cond.code yX7_refuses cX7_refuses 2 (some .int), Cond.fieldLink RX7 119 "SnapTableModel" "refused" "I", Cond.methodLink RX7 159 yX7_keeps, Cond.instanceMethod yX7_keeps, Cond.selects RX7 yX7_keeps yX7_keeps, Cond.code yX7_keeps cX7_keeps 3 none, Cond.fieldLink RX7 53 "SnapTableModel" "trailPoint" "[I", Cond.fieldLink RX7 139 "SnapTableModel" "trail" "I", Cond.fieldLink RX7 56 "SnapTableModel" "trailX" "[J", Cond.fieldLink RX7 59 "SnapTableModel" "trailY" "[I", Cond.methodLink RX7 166 yX7_does, Cond.instanceMethod yX7_does, Cond.selects RX7 yX7_does yX7_does, Cond.code yX7_does cX7_does 1 (some .int), Cond.fieldLink RX7 122 "SnapTableModel" "done" "I"]
def wsX7_comes : List Cond := .code yX7_comes cX7_comes 8 (some .int) :: ((wsX7_comes_r1 ++ (wsX7_comes_r2 ++ wsX7_comes_r3)) ++ wsX70)
def wsX7_place_r1 : List Cond := [Cond.methodLink RX7 170 yX7_isPoint, Cond.static yX7_isPoint, Cond.initialized RX7, Cond.code yX7_isPoint cX7_isPoint 1 (some .boolean), Cond.methodLink RX7 156 yX7_refuses, Cond.instanceMethod yX7_refuses, Cond.selects RX7 yX7_refuses yX7_refuses, Cond.code yX7_refuses cX7_refuses 2 (some .int), Cond.fieldLink RX7 119 "SnapTableModel" "refused" "I", Cond.methodLink RX7 173 yX7_isNone, Cond.static yX7_isNone, Cond.code yX7_isNone cX7_isNone 2 (some .boolean), Cond.constantLong RX7 23 (9218868437227405312), Cond.methodLink RX7 74 yX7_size, Cond.static yX7_size, Cond.code yX7_size cX7_size 2 (some .long), Cond.constantLong RX7 72 (9223372036854775807), Cond.methodLink RX7 176 yX7_isNone4, Cond.static yX7_isNone4, Cond.code yX7_isNone4 cX7_isNone4 1 (some .boolean), Cond.constant RX7 38 (2139095040), Cond.methodLink RX7 109 yX7_size4, Cond.static yX7_size4, Cond.code yX7_size4 cX7_size4 1 (some .int)]
def wsX7_place_r2 : List Cond := [Cond.constant RX7 95 (2147483647), Cond.methodLink RX7 148 yX7_isInfinite, Cond.static yX7_isInfinite, Cond.code yX7_isInfinite cX7_isInfinite 2 (some .boolean), Cond.methodLink RX7 152 yX7_isInfinite4, Cond.static yX7_isInfinite4, Cond.code yX7_isInfinite4 cX7_isInfinite4 1 (some .boolean), Cond.methodLink RX7 179 yX7_comes, Cond.instanceMethod yX7_comes, Cond.selects RX7 yX7_comes yX7_comes, Cond.code yX7_comes cX7_comes 8 (some .int), Cond.fieldLink RX7 163 "SnapTableModel" "met" "I", Cond.fieldLink RX7 7 "SnapTableModel" "xs" "[J", Cond.fieldLink RX7 13 "SnapTableModel" "ys" "[I", Cond.methodLink RX7 142 yX7_walled, Cond.instanceMethod yX7_walled, Cond.selects RX7 yX7_walled yX7_walled, Cond.code yX7_walled cX7_walled 3 (some .long), Cond.fieldLink RX7 25 "SnapTableModel" "right" "J", Cond.fieldLink RX7 19 "SnapTableModel" "left" "J", Cond.methodLink RX7 125 yX7_lesser, Cond.static yX7_lesser, Cond.code yX7_lesser cX7_lesser 4 (some .long), Cond.methodLink RX7 80 yX7_order]
def wsX7_place_r3 : List Cond := [Cond.static yX7_order, Cond.code yX7_order cX7_order 2 (some .long), Cond.constantLong RX7 78 (-1), Cond.methodLink RX7 129 yX7_greater, Cond.static yX7_greater, Cond.code yX7_greater cX7_greater 4 (some .long), Cond.methodLink RX7 145 yX7_railed, Cond.instanceMethod yX7_railed, Cond.selects RX7 yX7_railed yX7_railed, Cond.code yX7_railed cX7_railed 2 (some .int), Cond.fieldLink RX7 39 "SnapTableModel" "high" "I", Cond.fieldLink RX7 34 "SnapTableModel" "low" "I", Cond.methodLink RX7 132 yX7_lesser4, Cond.static yX7_lesser4, Cond.code yX7_lesser4 cX7_lesser4 2 (some .int), Cond.methodLink RX7 113 yX7_order4, Cond.static yX7_order4, Cond.code yX7_order4 cX7_order4 1 (some .int), Cond.methodLink RX7 136 yX7_greater4, Cond.static yX7_greater4, Cond.code yX7_greater4 cX7_greater4 2 (some .int), Cond.methodLink RX7 159 yX7_keeps, Cond.instanceMethod yX7_keeps, Cond.selects RX7 yX7_keeps yX7_keeps]
def wsX7_place_r4 : List Cond := [Cond.code yX7_keeps cX7_keeps 3 none, Cond.fieldLink RX7 53 "SnapTableModel" "trailPoint" "[I", Cond.fieldLink RX7 139 "SnapTableModel" "trail" "I", Cond.fieldLink RX7 56 "SnapTableModel" "trailX" "[J", Cond.fieldLink RX7 59 "SnapTableModel" "trailY" "[I", Cond.methodLink RX7 166 yX7_does, Cond.instanceMethod yX7_does, Cond.selects RX7 yX7_does yX7_does, Cond.code yX7_does cX7_does 1 (some .int), Cond.fieldLink RX7 122 "SnapTableModel" "done" "I"]
def wsX7_place : List Cond := .code yX7_place cX7_place 5 (some .int) :: ((wsX7_place_r1 ++ (wsX7_place_r2 ++ (wsX7_place_r3 ++ wsX7_place_r4))) ++ wsX70)
def wsX7_walls_r1 : List Cond := [Cond.fieldLink RX7 19 "SnapTableModel" "left" "J", Cond.fieldLink RX7 25 "SnapTableModel" "right" "J", Cond.fieldLink RX7 7 "SnapTableModel" "xs" "[J", Cond.fieldLink RX7 163 "SnapTableModel" "met" "I", Cond.fieldLink RX7 139 "SnapTableModel" "trail" "I", Cond.methodLink RX7 173 yX7_isNone, Cond.static yX7_isNone, Cond.initialized RX7, Cond.code yX7_isNone cX7_isNone 2 (some .boolean), Cond.constantLong RX7 23 (9218868437227405312), Cond.methodLink RX7 74 yX7_size, Cond.static yX7_size, Cond.code yX7_size cX7_size 2 (some .long), Cond.constantLong RX7 72 (9223372036854775807), Cond.methodLink RX7 156 yX7_refuses, Cond.instanceMethod yX7_refuses, Cond.selects RX7 yX7_refuses yX7_refuses, Cond.code yX7_refuses cX7_refuses 2 (some .int), Cond.fieldLink RX7 119 "SnapTableModel" "refused" "I", Cond.methodLink RX7 183 yX7_isBelow, Cond.static yX7_isBelow, Cond.code yX7_isBelow cX7_isBelow 4 (some .boolean), Cond.methodLink RX7 80 yX7_order, Cond.static yX7_order]
def wsX7_walls_r2 : List Cond := [Cond.code yX7_order cX7_order 2 (some .long), Cond.constantLong RX7 78 (-1), Cond.methodLink RX7 142 yX7_walled, Cond.instanceMethod yX7_walled, Cond.selects RX7 yX7_walled yX7_walled, Cond.code yX7_walled cX7_walled 3 (some .long), Cond.methodLink RX7 125 yX7_lesser, Cond.static yX7_lesser, Cond.code yX7_lesser cX7_lesser 4 (some .long), Cond.methodLink RX7 129 yX7_greater, Cond.static yX7_greater, Cond.code yX7_greater cX7_greater 4 (some .long), Cond.methodLink RX7 166 yX7_does, Cond.instanceMethod yX7_does, Cond.selects RX7 yX7_does yX7_does, Cond.code yX7_does cX7_does 1 (some .int), Cond.fieldLink RX7 122 "SnapTableModel" "done" "I"]
def wsX7_walls : List Cond := .code yX7_walls cX7_walls 8 (some .int) :: ((wsX7_walls_r1 ++ wsX7_walls_r2) ++ wsX70)
def wsX7_rails_r1 : List Cond := [Cond.fieldLink RX7 34 "SnapTableModel" "low" "I", Cond.fieldLink RX7 39 "SnapTableModel" "high" "I", Cond.fieldLink RX7 13 "SnapTableModel" "ys" "[I", Cond.fieldLink RX7 163 "SnapTableModel" "met" "I", Cond.fieldLink RX7 139 "SnapTableModel" "trail" "I", Cond.methodLink RX7 176 yX7_isNone4, Cond.static yX7_isNone4, Cond.initialized RX7, Cond.code yX7_isNone4 cX7_isNone4 1 (some .boolean), Cond.constant RX7 38 (2139095040), Cond.methodLink RX7 109 yX7_size4, Cond.static yX7_size4, Cond.code yX7_size4 cX7_size4 1 (some .int), Cond.constant RX7 95 (2147483647), Cond.methodLink RX7 156 yX7_refuses, Cond.instanceMethod yX7_refuses, Cond.selects RX7 yX7_refuses yX7_refuses, Cond.code yX7_refuses cX7_refuses 2 (some .int), Cond.fieldLink RX7 119 "SnapTableModel" "refused" "I", Cond.methodLink RX7 187 yX7_isBelow4, Cond.static yX7_isBelow4, Cond.code yX7_isBelow4 cX7_isBelow4 2 (some .boolean), Cond.methodLink RX7 113 yX7_order4, Cond.static yX7_order4]
def wsX7_rails_r2 : List Cond := [Cond.code yX7_order4 cX7_order4 1 (some .int), Cond.methodLink RX7 145 yX7_railed, Cond.instanceMethod yX7_railed, Cond.selects RX7 yX7_railed yX7_railed, Cond.code yX7_railed cX7_railed 2 (some .int), Cond.methodLink RX7 132 yX7_lesser4, Cond.static yX7_lesser4, Cond.code yX7_lesser4 cX7_lesser4 2 (some .int), Cond.methodLink RX7 136 yX7_greater4, Cond.static yX7_greater4, Cond.code yX7_greater4 cX7_greater4 2 (some .int), Cond.methodLink RX7 166 yX7_does, Cond.instanceMethod yX7_does, Cond.selects RX7 yX7_does yX7_does, Cond.code yX7_does cX7_does 1 (some .int), Cond.fieldLink RX7 122 "SnapTableModel" "done" "I"]
def wsX7_rails : List Cond := .code yX7_rails cX7_rails 5 (some .int) :: ((wsX7_rails_r1 ++ wsX7_rails_r2) ++ wsX70)
def wsX7_steps_r1 : List Cond := [Cond.fieldLink RX7 30 "SnapTableModel" "step" "J", Cond.fieldLink RX7 43 "SnapTableModel" "grain" "I", Cond.methodLink RX7 173 yX7_isNone, Cond.static yX7_isNone, Cond.initialized RX7, Cond.code yX7_isNone cX7_isNone 2 (some .boolean), Cond.constantLong RX7 23 (9218868437227405312), Cond.methodLink RX7 74 yX7_size, Cond.static yX7_size, Cond.code yX7_size cX7_size 2 (some .long), Cond.constantLong RX7 72 (9223372036854775807), Cond.methodLink RX7 176 yX7_isNone4, Cond.static yX7_isNone4, Cond.code yX7_isNone4 cX7_isNone4 1 (some .boolean), Cond.constant RX7 38 (2139095040), Cond.methodLink RX7 109 yX7_size4, Cond.static yX7_size4, Cond.code yX7_size4 cX7_size4 1 (some .int), Cond.constant RX7 95 (2147483647), Cond.methodLink RX7 156 yX7_refuses, Cond.instanceMethod yX7_refuses, Cond.selects RX7 yX7_refuses yX7_refuses, Cond.code yX7_refuses cX7_refuses 2 (some .int), Cond.fieldLink RX7 119 "SnapTableModel" "refused" "I"]
def wsX7_steps_r2 : List Cond := [Cond.methodLink RX7 148 yX7_isInfinite, Cond.static yX7_isInfinite, Cond.code yX7_isInfinite cX7_isInfinite 2 (some .boolean), Cond.methodLink RX7 152 yX7_isInfinite4, Cond.static yX7_isInfinite4, Cond.code yX7_isInfinite4 cX7_isInfinite4 1 (some .boolean), Cond.methodLink RX7 183 yX7_isBelow, Cond.static yX7_isBelow, Cond.code yX7_isBelow cX7_isBelow 4 (some .boolean), Cond.methodLink RX7 80 yX7_order, Cond.static yX7_order, Cond.code yX7_order cX7_order 2 (some .long), Cond.constantLong RX7 78 (-1), Cond.methodLink RX7 187 yX7_isBelow4, Cond.static yX7_isBelow4, Cond.code yX7_isBelow4 cX7_isBelow4 2 (some .boolean), Cond.methodLink RX7 113 yX7_order4, Cond.static yX7_order4, Cond.code yX7_order4 cX7_order4 1 (some .int), Cond.methodLink RX7 166 yX7_does, Cond.instanceMethod yX7_does, Cond.selects RX7 yX7_does yX7_does, Cond.code yX7_does cX7_does 1 (some .int), Cond.fieldLink RX7 122 "SnapTableModel" "done" "I"]
def wsX7_steps : List Cond := .code yX7_steps cX7_steps 4 (some .int) :: ((wsX7_steps_r1 ++ wsX7_steps_r2) ++ wsX70)
def wsX7_move_r1 : List Cond := [Cond.fieldLink RX7 7 "SnapTableModel" "xs" "[J", Cond.fieldLink RX7 13 "SnapTableModel" "ys" "[I", Cond.methodLink RX7 170 yX7_isPoint, Cond.static yX7_isPoint, Cond.initialized RX7, Cond.code yX7_isPoint cX7_isPoint 1 (some .boolean), Cond.methodLink RX7 156 yX7_refuses, Cond.instanceMethod yX7_refuses, Cond.selects RX7 yX7_refuses yX7_refuses, Cond.code yX7_refuses cX7_refuses 2 (some .int), Cond.fieldLink RX7 119 "SnapTableModel" "refused" "I", Cond.methodLink RX7 173 yX7_isNone, Cond.static yX7_isNone, Cond.code yX7_isNone cX7_isNone 2 (some .boolean), Cond.constantLong RX7 23 (9218868437227405312), Cond.methodLink RX7 74 yX7_size, Cond.static yX7_size, Cond.code yX7_size cX7_size 2 (some .long), Cond.constantLong RX7 72 (9223372036854775807), Cond.methodLink RX7 176 yX7_isNone4, Cond.static yX7_isNone4, Cond.code yX7_isNone4 cX7_isNone4 1 (some .boolean), Cond.constant RX7 38 (2139095040), Cond.methodLink RX7 109 yX7_size4]
def wsX7_move_r2 : List Cond := [Cond.static yX7_size4, Cond.code yX7_size4 cX7_size4 1 (some .int), Cond.constant RX7 95 (2147483647), Cond.methodLink RX7 191 yX7_of, Cond.static yX7_of, Cond.code yX7_of cX7_of 2 (some .double), Cond.methodLink RX7 62 ⟨"java/lang/Double", "longBitsToDouble", "(J)D"⟩, Cond.native ⟨"java/lang/Double", "longBitsToDouble", "(J)D"⟩, Cond.static ⟨"java/lang/Double", "longBitsToDouble", "(J)D"⟩, Cond.initialized "java/lang/Double", Cond.methodLink RX7 194 yX7_bits, Cond.static yX7_bits, Cond.code yX7_bits cX7_bits 2 (some .long), Cond.methodLink RX7 68 yJxe99ae_doubleToLongBits_ccdee, Cond.static yJxe99ae_doubleToLongBits_ccdee, Cond.initialized RJxe99ae, Cond.code yJxe99ae_doubleToLongBits_ccdee cJxe99ae_doubleToLongBits_ccdee 2 (some .long), Cond.methodLink RJxe99ae 134 ⟨"java/lang/Double", "doubleToRawLongBits", "(D)J"⟩, Cond.native ⟨"java/lang/Double", "doubleToRawLongBits", "(D)J"⟩, Cond.static ⟨"java/lang/Double", "doubleToRawLongBits", "(D)J"⟩, Cond.constantLong RJxe99ae 137 (9221120237041090560), Cond.methodLink RJxe99ae 122 yJxe99ae_isNaN_b9ae7, Cond.static yJxe99ae_isNaN_b9ae7, Cond.code yJxe99ae_isNaN_b9ae7 cJxe99ae_isNaN_b9ae7 2 (some .boolean)]
def wsX7_move_r3 : List Cond := [Cond.methodLink RX7 197 yX7_of4, Cond.static yX7_of4, Cond.code yX7_of4 cX7_of4 1 (some .float), Cond.methodLink RX7 99 ⟨"java/lang/Float", "intBitsToFloat", "(I)F"⟩, Cond.native ⟨"java/lang/Float", "intBitsToFloat", "(I)F"⟩, Cond.static ⟨"java/lang/Float", "intBitsToFloat", "(I)F"⟩, Cond.initialized "java/lang/Float", Cond.methodLink RX7 200 yX7_bits4, Cond.static yX7_bits4, Cond.code yX7_bits4 cX7_bits4 1 (some .int), Cond.methodLink RX7 105 yJxf58ca_floatToIntBits_5c35a, Cond.static yJxf58ca_floatToIntBits_5c35a, Cond.initialized RJxf58ca, Cond.code yJxf58ca_floatToIntBits_5c35a cJxf58ca_floatToIntBits_5c35a 1 (some .int), Cond.methodLink RJxf58ca 74 ⟨"java/lang/Float", "floatToRawIntBits", "(F)I"⟩, Cond.native ⟨"java/lang/Float", "floatToRawIntBits", "(F)I"⟩, Cond.static ⟨"java/lang/Float", "floatToRawIntBits", "(F)I"⟩, Cond.constant RJxf58ca 77 (2143289344), Cond.methodLink RJxf58ca 59 yJxf58ca_isNaN_12338, Cond.static yJxf58ca_isNaN_12338, Cond.code yJxf58ca_isNaN_12338 cJxf58ca_isNaN_12338 1 (some .boolean), Cond.methodLink RX7 179 yX7_comes, Cond.instanceMethod yX7_comes, Cond.selects RX7 yX7_comes yX7_comes]
def wsX7_move_r4 : List Cond := [Cond.code yX7_comes cX7_comes 8 (some .int), Cond.fieldLink RX7 163 "SnapTableModel" "met" "I", Cond.methodLink RX7 142 yX7_walled, Cond.instanceMethod yX7_walled, Cond.selects RX7 yX7_walled yX7_walled, Cond.code yX7_walled cX7_walled 3 (some .long), Cond.fieldLink RX7 25 "SnapTableModel" "right" "J", Cond.fieldLink RX7 19 "SnapTableModel" "left" "J", Cond.methodLink RX7 125 yX7_lesser, Cond.static yX7_lesser, Cond.code yX7_lesser cX7_lesser 4 (some .long), Cond.methodLink RX7 80 yX7_order, Cond.static yX7_order, Cond.code yX7_order cX7_order 2 (some .long), Cond.constantLong RX7 78 (-1), Cond.methodLink RX7 129 yX7_greater, Cond.static yX7_greater, Cond.code yX7_greater cX7_greater 4 (some .long), Cond.methodLink RX7 145 yX7_railed, Cond.instanceMethod yX7_railed, Cond.selects RX7 yX7_railed yX7_railed, Cond.code yX7_railed cX7_railed 2 (some .int), Cond.fieldLink RX7 39 "SnapTableModel" "high" "I", Cond.fieldLink RX7 34 "SnapTableModel" "low" "I"]
def wsX7_move_r5 : List Cond := [Cond.methodLink RX7 132 yX7_lesser4, Cond.static yX7_lesser4, Cond.code yX7_lesser4 cX7_lesser4 2 (some .int), Cond.methodLink RX7 113 yX7_order4, Cond.static yX7_order4, Cond.code yX7_order4 cX7_order4 1 (some .int), Cond.methodLink RX7 136 yX7_greater4, Cond.static yX7_greater4, Cond.code yX7_greater4 cX7_greater4 2 (some .int), Cond.methodLink RX7 148 yX7_isInfinite, Cond.static yX7_isInfinite, Cond.code yX7_isInfinite cX7_isInfinite 2 (some .boolean), Cond.methodLink RX7 152 yX7_isInfinite4, Cond.static yX7_isInfinite4, Cond.code yX7_isInfinite4 cX7_isInfinite4 1 (some .boolean), Cond.methodLink RX7 159 yX7_keeps, Cond.instanceMethod yX7_keeps, Cond.selects RX7 yX7_keeps yX7_keeps, Cond.code yX7_keeps cX7_keeps 3 none, Cond.fieldLink RX7 53 "SnapTableModel" "trailPoint" "[I", Cond.fieldLink RX7 139 "SnapTableModel" "trail" "I", Cond.fieldLink RX7 56 "SnapTableModel" "trailX" "[J", Cond.fieldLink RX7 59 "SnapTableModel" "trailY" "[I", Cond.methodLink RX7 166 yX7_does]
def wsX7_move_r6 : List Cond := [Cond.instanceMethod yX7_does, Cond.selects RX7 yX7_does yX7_does, Cond.code yX7_does cX7_does 1 (some .int), Cond.fieldLink RX7 122 "SnapTableModel" "done" "I"]
def wsX7_move : List Cond := .code yX7_move cX7_move 5 (some .int) :: ((wsX7_move_r1 ++ (wsX7_move_r2 ++ (wsX7_move_r3 ++ (wsX7_move_r4 ++ (wsX7_move_r5 ++ wsX7_move_r6))))) ++ wsX70)
def wsX7_snap_r1 : List Cond := [Cond.fieldLink RX7 7 "SnapTableModel" "xs" "[J", Cond.fieldLink RX7 30 "SnapTableModel" "step" "J", Cond.fieldLink RX7 13 "SnapTableModel" "ys" "[I", Cond.fieldLink RX7 43 "SnapTableModel" "grain" "I", Cond.methodLink RX7 170 yX7_isPoint, Cond.static yX7_isPoint, Cond.initialized RX7, Cond.code yX7_isPoint cX7_isPoint 1 (some .boolean), Cond.methodLink RX7 156 yX7_refuses, Cond.instanceMethod yX7_refuses, Cond.selects RX7 yX7_refuses yX7_refuses, Cond.code yX7_refuses cX7_refuses 2 (some .int), Cond.fieldLink RX7 119 "SnapTableModel" "refused" "I", Cond.methodLink RX7 191 yX7_of, Cond.static yX7_of, Cond.code yX7_of cX7_of 2 (some .double), Cond.methodLink RX7 62 ⟨"java/lang/Double", "longBitsToDouble", "(J)D"⟩, Cond.native ⟨"java/lang/Double", "longBitsToDouble", "(J)D"⟩, Cond.static ⟨"java/lang/Double", "longBitsToDouble", "(J)D"⟩, Cond.initialized "java/lang/Double", Cond.methodLink RX7 194 yX7_bits, Cond.static yX7_bits, Cond.code yX7_bits cX7_bits 2 (some .long), Cond.methodLink RX7 68 yJxe99ae_doubleToLongBits_ccdee]
def wsX7_snap_r2 : List Cond := [Cond.static yJxe99ae_doubleToLongBits_ccdee, Cond.initialized RJxe99ae, Cond.code yJxe99ae_doubleToLongBits_ccdee cJxe99ae_doubleToLongBits_ccdee 2 (some .long), Cond.methodLink RJxe99ae 134 ⟨"java/lang/Double", "doubleToRawLongBits", "(D)J"⟩, Cond.native ⟨"java/lang/Double", "doubleToRawLongBits", "(D)J"⟩, Cond.static ⟨"java/lang/Double", "doubleToRawLongBits", "(D)J"⟩, Cond.constantLong RJxe99ae 137 (9221120237041090560), Cond.methodLink RJxe99ae 122 yJxe99ae_isNaN_b9ae7, Cond.static yJxe99ae_isNaN_b9ae7, Cond.code yJxe99ae_isNaN_b9ae7 cJxe99ae_isNaN_b9ae7 2 (some .boolean), Cond.methodLink RX7 203 yX7_whole, Cond.static yX7_whole, Cond.code yX7_whole cX7_whole 15 (some .long), Cond.constantLong RX7 83 (-9223372036854775808), Cond.constantLong RX7 85 (4602678819172646912), Cond.constantLong RX7 28 (4607182418800017408), Cond.constantLong RX7 87 (2), Cond.methodLink RX7 74 yX7_size, Cond.static yX7_size, Cond.code yX7_size cX7_size 2 (some .long), Cond.constantLong RX7 72 (9223372036854775807), Cond.methodLink RX7 89 yX7_isOdd, Cond.static yX7_isOdd, Cond.code yX7_isOdd cX7_isOdd 3 (some .boolean)]
def wsX7_snap_r3 : List Cond := [Cond.methodLink RX7 197 yX7_of4, Cond.static yX7_of4, Cond.code yX7_of4 cX7_of4 1 (some .float), Cond.methodLink RX7 99 ⟨"java/lang/Float", "intBitsToFloat", "(I)F"⟩, Cond.native ⟨"java/lang/Float", "intBitsToFloat", "(I)F"⟩, Cond.static ⟨"java/lang/Float", "intBitsToFloat", "(I)F"⟩, Cond.initialized "java/lang/Float", Cond.methodLink RX7 200 yX7_bits4, Cond.static yX7_bits4, Cond.code yX7_bits4 cX7_bits4 1 (some .int), Cond.methodLink RX7 105 yJxf58ca_floatToIntBits_5c35a, Cond.static yJxf58ca_floatToIntBits_5c35a, Cond.initialized RJxf58ca, Cond.code yJxf58ca_floatToIntBits_5c35a cJxf58ca_floatToIntBits_5c35a 1 (some .int), Cond.methodLink RJxf58ca 74 ⟨"java/lang/Float", "floatToRawIntBits", "(F)I"⟩, Cond.native ⟨"java/lang/Float", "floatToRawIntBits", "(F)I"⟩, Cond.static ⟨"java/lang/Float", "floatToRawIntBits", "(F)I"⟩, Cond.constant RJxf58ca 77 (2143289344), Cond.methodLink RJxf58ca 59 yJxf58ca_isNaN_12338, Cond.static yJxf58ca_isNaN_12338, Cond.code yJxf58ca_isNaN_12338 cJxf58ca_isNaN_12338 1 (some .boolean), Cond.methodLink RX7 207 yX7_whole4, Cond.static yX7_whole4, Cond.code yX7_whole4 cX7_whole4 9 (some .int)]
def wsX7_snap_r4 : List Cond := [Cond.constant RX7 98 (-2147483648), Cond.constant RX7 116 (1056964608), Cond.constant RX7 42 (1065353216), Cond.methodLink RX7 109 yX7_size4, Cond.static yX7_size4, Cond.code yX7_size4 cX7_size4 1 (some .int), Cond.constant RX7 95 (2147483647), Cond.methodLink RX7 179 yX7_comes, Cond.instanceMethod yX7_comes, Cond.selects RX7 yX7_comes yX7_comes, Cond.code yX7_comes cX7_comes 8 (some .int), Cond.fieldLink RX7 163 "SnapTableModel" "met" "I", Cond.methodLink RX7 142 yX7_walled, Cond.instanceMethod yX7_walled, Cond.selects RX7 yX7_walled yX7_walled, Cond.code yX7_walled cX7_walled 3 (some .long), Cond.fieldLink RX7 25 "SnapTableModel" "right" "J", Cond.fieldLink RX7 19 "SnapTableModel" "left" "J", Cond.methodLink RX7 125 yX7_lesser, Cond.static yX7_lesser, Cond.code yX7_lesser cX7_lesser 4 (some .long), Cond.methodLink RX7 80 yX7_order, Cond.static yX7_order, Cond.code yX7_order cX7_order 2 (some .long)]
def wsX7_snap_r5 : List Cond := [Cond.constantLong RX7 78 (-1), Cond.methodLink RX7 129 yX7_greater, Cond.static yX7_greater, Cond.code yX7_greater cX7_greater 4 (some .long), Cond.methodLink RX7 145 yX7_railed, Cond.instanceMethod yX7_railed, Cond.selects RX7 yX7_railed yX7_railed, Cond.code yX7_railed cX7_railed 2 (some .int), Cond.fieldLink RX7 39 "SnapTableModel" "high" "I", Cond.fieldLink RX7 34 "SnapTableModel" "low" "I", Cond.methodLink RX7 132 yX7_lesser4, Cond.static yX7_lesser4, Cond.code yX7_lesser4 cX7_lesser4 2 (some .int), Cond.methodLink RX7 113 yX7_order4, Cond.static yX7_order4, Cond.code yX7_order4 cX7_order4 1 (some .int), Cond.methodLink RX7 136 yX7_greater4, Cond.static yX7_greater4, Cond.code yX7_greater4 cX7_greater4 2 (some .int), Cond.methodLink RX7 148 yX7_isInfinite, Cond.static yX7_isInfinite, Cond.code yX7_isInfinite cX7_isInfinite 2 (some .boolean), Cond.constantLong RX7 23 (9218868437227405312), Cond.methodLink RX7 152 yX7_isInfinite4]
def wsX7_snap_r6 : List Cond := [Cond.static yX7_isInfinite4, Cond.code yX7_isInfinite4 cX7_isInfinite4 1 (some .boolean), Cond.constant RX7 38 (2139095040), Cond.methodLink RX7 159 yX7_keeps, Cond.instanceMethod yX7_keeps, Cond.selects RX7 yX7_keeps yX7_keeps, Cond.code yX7_keeps cX7_keeps 3 none, Cond.fieldLink RX7 53 "SnapTableModel" "trailPoint" "[I", Cond.fieldLink RX7 139 "SnapTableModel" "trail" "I", Cond.fieldLink RX7 56 "SnapTableModel" "trailX" "[J", Cond.fieldLink RX7 59 "SnapTableModel" "trailY" "[I", Cond.methodLink RX7 166 yX7_does, Cond.instanceMethod yX7_does, Cond.selects RX7 yX7_does yX7_does, Cond.code yX7_does cX7_does 1 (some .int), Cond.fieldLink RX7 122 "SnapTableModel" "done" "I"]
def wsX7_snap : List Cond := .code yX7_snap cX7_snap 6 (some .int) :: ((wsX7_snap_r1 ++ (wsX7_snap_r2 ++ (wsX7_snap_r3 ++ (wsX7_snap_r4 ++ (wsX7_snap_r5 ++ wsX7_snap_r6))))) ++ wsX70)
def wsX7_lean_r1 : List Cond := [Cond.fieldLink RX7 7 "SnapTableModel" "xs" "[J", Cond.constantLong RX7 83 (-9223372036854775808), Cond.fieldLink RX7 13 "SnapTableModel" "ys" "[I", Cond.constant RX7 98 (-2147483648), Cond.methodLink RX7 170 yX7_isPoint, Cond.static yX7_isPoint, Cond.initialized RX7, Cond.code yX7_isPoint cX7_isPoint 1 (some .boolean), Cond.methodLink RX7 156 yX7_refuses, Cond.instanceMethod yX7_refuses, Cond.selects RX7 yX7_refuses yX7_refuses, Cond.code yX7_refuses cX7_refuses 2 (some .int), Cond.fieldLink RX7 119 "SnapTableModel" "refused" "I", Cond.methodLink RX7 74 yX7_size, Cond.static yX7_size, Cond.code yX7_size cX7_size 2 (some .long), Cond.constantLong RX7 72 (9223372036854775807), Cond.methodLink RX7 109 yX7_size4, Cond.static yX7_size4, Cond.code yX7_size4 cX7_size4 1 (some .int), Cond.constant RX7 95 (2147483647), Cond.methodLink RX7 179 yX7_comes, Cond.instanceMethod yX7_comes, Cond.selects RX7 yX7_comes yX7_comes]
def wsX7_lean_r2 : List Cond := [Cond.code yX7_comes cX7_comes 8 (some .int), Cond.fieldLink RX7 163 "SnapTableModel" "met" "I", Cond.methodLink RX7 142 yX7_walled, Cond.instanceMethod yX7_walled, Cond.selects RX7 yX7_walled yX7_walled, Cond.code yX7_walled cX7_walled 3 (some .long), Cond.fieldLink RX7 25 "SnapTableModel" "right" "J", Cond.fieldLink RX7 19 "SnapTableModel" "left" "J", Cond.methodLink RX7 125 yX7_lesser, Cond.static yX7_lesser, Cond.code yX7_lesser cX7_lesser 4 (some .long), Cond.methodLink RX7 80 yX7_order, Cond.static yX7_order, Cond.code yX7_order cX7_order 2 (some .long), Cond.constantLong RX7 78 (-1), Cond.methodLink RX7 129 yX7_greater, Cond.static yX7_greater, Cond.code yX7_greater cX7_greater 4 (some .long), Cond.methodLink RX7 145 yX7_railed, Cond.instanceMethod yX7_railed, Cond.selects RX7 yX7_railed yX7_railed, Cond.code yX7_railed cX7_railed 2 (some .int), Cond.fieldLink RX7 39 "SnapTableModel" "high" "I", Cond.fieldLink RX7 34 "SnapTableModel" "low" "I"]
def wsX7_lean_r3 : List Cond := [Cond.methodLink RX7 132 yX7_lesser4, Cond.static yX7_lesser4, Cond.code yX7_lesser4 cX7_lesser4 2 (some .int), Cond.methodLink RX7 113 yX7_order4, Cond.static yX7_order4, Cond.code yX7_order4 cX7_order4 1 (some .int), Cond.methodLink RX7 136 yX7_greater4, Cond.static yX7_greater4, Cond.code yX7_greater4 cX7_greater4 2 (some .int), Cond.methodLink RX7 148 yX7_isInfinite, Cond.static yX7_isInfinite, Cond.code yX7_isInfinite cX7_isInfinite 2 (some .boolean), Cond.constantLong RX7 23 (9218868437227405312), Cond.methodLink RX7 152 yX7_isInfinite4, Cond.static yX7_isInfinite4, Cond.code yX7_isInfinite4 cX7_isInfinite4 1 (some .boolean), Cond.constant RX7 38 (2139095040), Cond.methodLink RX7 159 yX7_keeps, Cond.instanceMethod yX7_keeps, Cond.selects RX7 yX7_keeps yX7_keeps, Cond.code yX7_keeps cX7_keeps 3 none, Cond.fieldLink RX7 53 "SnapTableModel" "trailPoint" "[I", Cond.fieldLink RX7 139 "SnapTableModel" "trail" "I", Cond.fieldLink RX7 56 "SnapTableModel" "trailX" "[J"]
def wsX7_lean_r4 : List Cond := [Cond.fieldLink RX7 59 "SnapTableModel" "trailY" "[I", Cond.methodLink RX7 166 yX7_does, Cond.instanceMethod yX7_does, Cond.selects RX7 yX7_does yX7_does, Cond.code yX7_does cX7_does 1 (some .int), Cond.fieldLink RX7 122 "SnapTableModel" "done" "I"]
def wsX7_lean : List Cond := .code yX7_lean cX7_lean 3 (some .int) :: ((wsX7_lean_r1 ++ (wsX7_lean_r2 ++ (wsX7_lean_r3 ++ wsX7_lean_r4))) ++ wsX70)
def wsX7_pull_r1 : List Cond := [Cond.fieldLink RX7 7 "SnapTableModel" "xs" "[J", Cond.fieldLink RX7 13 "SnapTableModel" "ys" "[I", Cond.methodLink RX7 170 yX7_isPoint, Cond.static yX7_isPoint, Cond.initialized RX7, Cond.code yX7_isPoint cX7_isPoint 1 (some .boolean), Cond.methodLink RX7 156 yX7_refuses, Cond.instanceMethod yX7_refuses, Cond.selects RX7 yX7_refuses yX7_refuses, Cond.code yX7_refuses cX7_refuses 2 (some .int), Cond.fieldLink RX7 119 "SnapTableModel" "refused" "I", Cond.methodLink RX7 159 yX7_keeps, Cond.instanceMethod yX7_keeps, Cond.selects RX7 yX7_keeps yX7_keeps, Cond.code yX7_keeps cX7_keeps 3 none, Cond.fieldLink RX7 53 "SnapTableModel" "trailPoint" "[I", Cond.fieldLink RX7 139 "SnapTableModel" "trail" "I", Cond.fieldLink RX7 56 "SnapTableModel" "trailX" "[J", Cond.fieldLink RX7 59 "SnapTableModel" "trailY" "[I", Cond.methodLink RX7 129 yX7_greater, Cond.static yX7_greater, Cond.code yX7_greater cX7_greater 4 (some .long), Cond.methodLink RX7 80 yX7_order, Cond.static yX7_order]
def wsX7_pull_r2 : List Cond := [Cond.code yX7_order cX7_order 2 (some .long), Cond.constantLong RX7 78 (-1), Cond.methodLink RX7 74 yX7_size, Cond.static yX7_size, Cond.code yX7_size cX7_size 2 (some .long), Cond.constantLong RX7 72 (9223372036854775807), Cond.methodLink RX7 125 yX7_lesser, Cond.static yX7_lesser, Cond.code yX7_lesser cX7_lesser 4 (some .long), Cond.methodLink RX7 136 yX7_greater4, Cond.static yX7_greater4, Cond.code yX7_greater4 cX7_greater4 2 (some .int), Cond.methodLink RX7 113 yX7_order4, Cond.static yX7_order4, Cond.code yX7_order4 cX7_order4 1 (some .int), Cond.methodLink RX7 109 yX7_size4, Cond.static yX7_size4, Cond.code yX7_size4 cX7_size4 1 (some .int), Cond.constant RX7 95 (2147483647), Cond.methodLink RX7 132 yX7_lesser4, Cond.static yX7_lesser4, Cond.code yX7_lesser4 cX7_lesser4 2 (some .int), Cond.methodLink RX7 166 yX7_does, Cond.instanceMethod yX7_does]
def wsX7_pull_r3 : List Cond := [Cond.selects RX7 yX7_does yX7_does, Cond.code yX7_does cX7_does 1 (some .int), Cond.fieldLink RX7 122 "SnapTableModel" "done" "I"]
def wsX7_pull : List Cond := .code yX7_pull cX7_pull 4 (some .int) :: ((wsX7_pull_r1 ++ (wsX7_pull_r2 ++ wsX7_pull_r3)) ++ wsX70)
def wsX7_swing_r1 : List Cond := [Cond.fieldLink RX7 7 "SnapTableModel" "xs" "[J", Cond.fieldLink RX7 13 "SnapTableModel" "ys" "[I", Cond.constant RX7 98 (-2147483648), Cond.methodLink RX7 170 yX7_isPoint, Cond.static yX7_isPoint, Cond.initialized RX7, Cond.code yX7_isPoint cX7_isPoint 1 (some .boolean), Cond.methodLink RX7 156 yX7_refuses, Cond.instanceMethod yX7_refuses, Cond.selects RX7 yX7_refuses yX7_refuses, Cond.code yX7_refuses cX7_refuses 2 (some .int), Cond.fieldLink RX7 119 "SnapTableModel" "refused" "I", Cond.methodLink RX7 173 yX7_isNone, Cond.static yX7_isNone, Cond.code yX7_isNone cX7_isNone 2 (some .boolean), Cond.constantLong RX7 23 (9218868437227405312), Cond.methodLink RX7 74 yX7_size, Cond.static yX7_size, Cond.code yX7_size cX7_size 2 (some .long), Cond.constantLong RX7 72 (9223372036854775807), Cond.methodLink RX7 148 yX7_isInfinite, Cond.static yX7_isInfinite, Cond.code yX7_isInfinite cX7_isInfinite 2 (some .boolean), Cond.methodLink RX7 191 yX7_of]
def wsX7_swing_r2 : List Cond := [Cond.static yX7_of, Cond.code yX7_of cX7_of 2 (some .double), Cond.methodLink RX7 62 ⟨"java/lang/Double", "longBitsToDouble", "(J)D"⟩, Cond.native ⟨"java/lang/Double", "longBitsToDouble", "(J)D"⟩, Cond.static ⟨"java/lang/Double", "longBitsToDouble", "(J)D"⟩, Cond.initialized "java/lang/Double", Cond.methodLink RX7 194 yX7_bits, Cond.static yX7_bits, Cond.code yX7_bits cX7_bits 2 (some .long), Cond.methodLink RX7 68 yJxe99ae_doubleToLongBits_ccdee, Cond.static yJxe99ae_doubleToLongBits_ccdee, Cond.initialized RJxe99ae, Cond.code yJxe99ae_doubleToLongBits_ccdee cJxe99ae_doubleToLongBits_ccdee 2 (some .long), Cond.methodLink RJxe99ae 134 ⟨"java/lang/Double", "doubleToRawLongBits", "(D)J"⟩, Cond.native ⟨"java/lang/Double", "doubleToRawLongBits", "(D)J"⟩, Cond.static ⟨"java/lang/Double", "doubleToRawLongBits", "(D)J"⟩, Cond.constantLong RJxe99ae 137 (9221120237041090560), Cond.methodLink RJxe99ae 122 yJxe99ae_isNaN_b9ae7, Cond.static yJxe99ae_isNaN_b9ae7, Cond.code yJxe99ae_isNaN_b9ae7 cJxe99ae_isNaN_b9ae7 2 (some .boolean), Cond.methodLink RX7 179 yX7_comes, Cond.instanceMethod yX7_comes, Cond.selects RX7 yX7_comes yX7_comes, Cond.code yX7_comes cX7_comes 8 (some .int)]
def wsX7_swing_r3 : List Cond := [Cond.fieldLink RX7 163 "SnapTableModel" "met" "I", Cond.methodLink RX7 142 yX7_walled, Cond.instanceMethod yX7_walled, Cond.selects RX7 yX7_walled yX7_walled, Cond.code yX7_walled cX7_walled 3 (some .long), Cond.fieldLink RX7 25 "SnapTableModel" "right" "J", Cond.fieldLink RX7 19 "SnapTableModel" "left" "J", Cond.methodLink RX7 125 yX7_lesser, Cond.static yX7_lesser, Cond.code yX7_lesser cX7_lesser 4 (some .long), Cond.methodLink RX7 80 yX7_order, Cond.static yX7_order, Cond.code yX7_order cX7_order 2 (some .long), Cond.constantLong RX7 78 (-1), Cond.methodLink RX7 129 yX7_greater, Cond.static yX7_greater, Cond.code yX7_greater cX7_greater 4 (some .long), Cond.methodLink RX7 145 yX7_railed, Cond.instanceMethod yX7_railed, Cond.selects RX7 yX7_railed yX7_railed, Cond.code yX7_railed cX7_railed 2 (some .int), Cond.fieldLink RX7 39 "SnapTableModel" "high" "I", Cond.fieldLink RX7 34 "SnapTableModel" "low" "I", Cond.methodLink RX7 132 yX7_lesser4]
def wsX7_swing_r4 : List Cond := [Cond.static yX7_lesser4, Cond.code yX7_lesser4 cX7_lesser4 2 (some .int), Cond.methodLink RX7 113 yX7_order4, Cond.static yX7_order4, Cond.code yX7_order4 cX7_order4 1 (some .int), Cond.methodLink RX7 109 yX7_size4, Cond.static yX7_size4, Cond.code yX7_size4 cX7_size4 1 (some .int), Cond.constant RX7 95 (2147483647), Cond.methodLink RX7 136 yX7_greater4, Cond.static yX7_greater4, Cond.code yX7_greater4 cX7_greater4 2 (some .int), Cond.methodLink RX7 152 yX7_isInfinite4, Cond.static yX7_isInfinite4, Cond.code yX7_isInfinite4 cX7_isInfinite4 1 (some .boolean), Cond.constant RX7 38 (2139095040), Cond.methodLink RX7 159 yX7_keeps, Cond.instanceMethod yX7_keeps, Cond.selects RX7 yX7_keeps yX7_keeps, Cond.code yX7_keeps cX7_keeps 3 none, Cond.fieldLink RX7 53 "SnapTableModel" "trailPoint" "[I", Cond.fieldLink RX7 139 "SnapTableModel" "trail" "I", Cond.fieldLink RX7 56 "SnapTableModel" "trailX" "[J", Cond.fieldLink RX7 59 "SnapTableModel" "trailY" "[I"]
def wsX7_swing_r5 : List Cond := [Cond.methodLink RX7 166 yX7_does, Cond.instanceMethod yX7_does, Cond.selects RX7 yX7_does yX7_does, Cond.code yX7_does cX7_does 1 (some .int), Cond.fieldLink RX7 122 "SnapTableModel" "done" "I"]
def wsX7_swing : List Cond := .code yX7_swing cX7_swing 4 (some .int) :: ((wsX7_swing_r1 ++ (wsX7_swing_r2 ++ (wsX7_swing_r3 ++ (wsX7_swing_r4 ++ wsX7_swing_r5)))) ++ wsX70)
def wsX7_guide : List Cond := .code yX7_guide cX7_guide 4 (some .int) :: ([.fieldLink RX7 49 "SnapTableModel" "guideOn" "[Z", .fieldLink RX7 46 "SnapTableModel" "guideAt" "[J", .methodLink RX7 156 yX7_refuses, .instanceMethod yX7_refuses, .selects RX7 yX7_refuses yX7_refuses, .initialized RX7, .code yX7_refuses cX7_refuses 2 (some .int), .fieldLink RX7 119 "SnapTableModel" "refused" "I", .methodLink RX7 173 yX7_isNone, .static yX7_isNone, .code yX7_isNone cX7_isNone 2 (some .boolean), .constantLong RX7 23 (9218868437227405312), .methodLink RX7 74 yX7_size, .static yX7_size, .code yX7_size cX7_size 2 (some .long), .constantLong RX7 72 (9223372036854775807), .methodLink RX7 148 yX7_isInfinite, .static yX7_isInfinite, .code yX7_isInfinite cX7_isInfinite 2 (some .boolean), .methodLink RX7 166 yX7_does, .instanceMethod yX7_does, .selects RX7 yX7_does yX7_does, .code yX7_does cX7_does 1 (some .int), .fieldLink RX7 122 "SnapTableModel" "done" "I"] ++ wsX70)
def wsX7_stick_r1 : List Cond := [Cond.fieldLink RX7 49 "SnapTableModel" "guideOn" "[Z", Cond.fieldLink RX7 7 "SnapTableModel" "xs" "[J", Cond.fieldLink RX7 46 "SnapTableModel" "guideAt" "[J", Cond.fieldLink RX7 13 "SnapTableModel" "ys" "[I", Cond.methodLink RX7 170 yX7_isPoint, Cond.static yX7_isPoint, Cond.initialized RX7, Cond.code yX7_isPoint cX7_isPoint 1 (some .boolean), Cond.methodLink RX7 156 yX7_refuses, Cond.instanceMethod yX7_refuses, Cond.selects RX7 yX7_refuses yX7_refuses, Cond.code yX7_refuses cX7_refuses 2 (some .int), Cond.fieldLink RX7 119 "SnapTableModel" "refused" "I", Cond.methodLink RX7 173 yX7_isNone, Cond.static yX7_isNone, Cond.code yX7_isNone cX7_isNone 2 (some .boolean), Cond.constantLong RX7 23 (9218868437227405312), Cond.methodLink RX7 74 yX7_size, Cond.static yX7_size, Cond.code yX7_size cX7_size 2 (some .long), Cond.constantLong RX7 72 (9223372036854775807), Cond.methodLink RX7 183 yX7_isBelow, Cond.static yX7_isBelow, Cond.code yX7_isBelow cX7_isBelow 4 (some .boolean)]
def wsX7_stick_r2 : List Cond := [Cond.methodLink RX7 80 yX7_order, Cond.static yX7_order, Cond.code yX7_order cX7_order 2 (some .long), Cond.constantLong RX7 78 (-1), Cond.methodLink RX7 191 yX7_of, Cond.static yX7_of, Cond.code yX7_of cX7_of 2 (some .double), Cond.methodLink RX7 62 ⟨"java/lang/Double", "longBitsToDouble", "(J)D"⟩, Cond.native ⟨"java/lang/Double", "longBitsToDouble", "(J)D"⟩, Cond.static ⟨"java/lang/Double", "longBitsToDouble", "(J)D"⟩, Cond.initialized "java/lang/Double", Cond.methodLink RX7 194 yX7_bits, Cond.static yX7_bits, Cond.code yX7_bits cX7_bits 2 (some .long), Cond.methodLink RX7 68 yJxe99ae_doubleToLongBits_ccdee, Cond.static yJxe99ae_doubleToLongBits_ccdee, Cond.initialized RJxe99ae, Cond.code yJxe99ae_doubleToLongBits_ccdee cJxe99ae_doubleToLongBits_ccdee 2 (some .long), Cond.methodLink RJxe99ae 134 ⟨"java/lang/Double", "doubleToRawLongBits", "(D)J"⟩, Cond.native ⟨"java/lang/Double", "doubleToRawLongBits", "(D)J"⟩, Cond.static ⟨"java/lang/Double", "doubleToRawLongBits", "(D)J"⟩, Cond.constantLong RJxe99ae 137 (9221120237041090560), Cond.methodLink RJxe99ae 122 yJxe99ae_isNaN_b9ae7, Cond.static yJxe99ae_isNaN_b9ae7]
def wsX7_stick_r3 : List Cond := [Cond.code yJxe99ae_isNaN_b9ae7 cJxe99ae_isNaN_b9ae7 2 (some .boolean), Cond.methodLink RX7 179 yX7_comes, Cond.instanceMethod yX7_comes, Cond.selects RX7 yX7_comes yX7_comes, Cond.code yX7_comes cX7_comes 8 (some .int), Cond.fieldLink RX7 163 "SnapTableModel" "met" "I", Cond.methodLink RX7 142 yX7_walled, Cond.instanceMethod yX7_walled, Cond.selects RX7 yX7_walled yX7_walled, Cond.code yX7_walled cX7_walled 3 (some .long), Cond.fieldLink RX7 25 "SnapTableModel" "right" "J", Cond.fieldLink RX7 19 "SnapTableModel" "left" "J", Cond.methodLink RX7 125 yX7_lesser, Cond.static yX7_lesser, Cond.code yX7_lesser cX7_lesser 4 (some .long), Cond.methodLink RX7 129 yX7_greater, Cond.static yX7_greater, Cond.code yX7_greater cX7_greater 4 (some .long), Cond.methodLink RX7 145 yX7_railed, Cond.instanceMethod yX7_railed, Cond.selects RX7 yX7_railed yX7_railed, Cond.code yX7_railed cX7_railed 2 (some .int), Cond.fieldLink RX7 39 "SnapTableModel" "high" "I", Cond.fieldLink RX7 34 "SnapTableModel" "low" "I"]
def wsX7_stick_r4 : List Cond := [Cond.methodLink RX7 132 yX7_lesser4, Cond.static yX7_lesser4, Cond.code yX7_lesser4 cX7_lesser4 2 (some .int), Cond.methodLink RX7 113 yX7_order4, Cond.static yX7_order4, Cond.code yX7_order4 cX7_order4 1 (some .int), Cond.methodLink RX7 109 yX7_size4, Cond.static yX7_size4, Cond.code yX7_size4 cX7_size4 1 (some .int), Cond.constant RX7 95 (2147483647), Cond.methodLink RX7 136 yX7_greater4, Cond.static yX7_greater4, Cond.code yX7_greater4 cX7_greater4 2 (some .int), Cond.methodLink RX7 148 yX7_isInfinite, Cond.static yX7_isInfinite, Cond.code yX7_isInfinite cX7_isInfinite 2 (some .boolean), Cond.methodLink RX7 152 yX7_isInfinite4, Cond.static yX7_isInfinite4, Cond.code yX7_isInfinite4 cX7_isInfinite4 1 (some .boolean), Cond.constant RX7 38 (2139095040), Cond.methodLink RX7 159 yX7_keeps, Cond.instanceMethod yX7_keeps, Cond.selects RX7 yX7_keeps yX7_keeps, Cond.code yX7_keeps cX7_keeps 3 none]
def wsX7_stick_r5 : List Cond := [Cond.fieldLink RX7 53 "SnapTableModel" "trailPoint" "[I", Cond.fieldLink RX7 139 "SnapTableModel" "trail" "I", Cond.fieldLink RX7 56 "SnapTableModel" "trailX" "[J", Cond.fieldLink RX7 59 "SnapTableModel" "trailY" "[I", Cond.methodLink RX7 166 yX7_does, Cond.instanceMethod yX7_does, Cond.selects RX7 yX7_does yX7_does, Cond.code yX7_does cX7_does 1 (some .int), Cond.fieldLink RX7 122 "SnapTableModel" "done" "I"]
def wsX7_stick : List Cond := .code yX7_stick cX7_stick 10 (some .int) :: ((wsX7_stick_r1 ++ (wsX7_stick_r2 ++ (wsX7_stick_r3 ++ (wsX7_stick_r4 ++ wsX7_stick_r5)))) ++ wsX70)
def wsX7_undo : List Cond := .code yX7_undo cX7_undo 2 (some .int) :: ([.fieldLink RX7 139 "SnapTableModel" "trail" "I", .fieldLink RX7 53 "SnapTableModel" "trailPoint" "[I", .fieldLink RX7 7 "SnapTableModel" "xs" "[J", .fieldLink RX7 56 "SnapTableModel" "trailX" "[J", .fieldLink RX7 13 "SnapTableModel" "ys" "[I", .fieldLink RX7 59 "SnapTableModel" "trailY" "[I"] ++ wsX70)
def wsX7_x : List Cond := .code yX7_x cX7_x 2 (some .long) :: ([.fieldLink RX7 7 "SnapTableModel" "xs" "[J", .methodLink RX7 170 yX7_isPoint, .static yX7_isPoint, .initialized RX7, .code yX7_isPoint cX7_isPoint 1 (some .boolean)] ++ wsX70)
def wsX7_y : List Cond := .code yX7_y cX7_y 2 (some .int) :: ([.fieldLink RX7 13 "SnapTableModel" "ys" "[I", .methodLink RX7 170 yX7_isPoint, .static yX7_isPoint, .initialized RX7, .code yX7_isPoint cX7_isPoint 1 (some .boolean)] ++ wsX70)
def wsX7_side : List Cond := .code yX7_side cX7_side 2 (some .long) :: ([.fieldLink RX7 7 "SnapTableModel" "xs" "[J", .constantLong RX7 28 (4607182418800017408), .constantLong RX7 83 (-9223372036854775808), .methodLink RX7 170 yX7_isPoint, .static yX7_isPoint, .initialized RX7, .code yX7_isPoint cX7_isPoint 1 (some .boolean), .methodLink RX7 74 yX7_size, .static yX7_size, .code yX7_size cX7_size 2 (some .long), .constantLong RX7 72 (9223372036854775807)] ++ wsX70)
def wsX7_lift : List Cond := .code yX7_lift cX7_lift 2 (some .int) :: ([.fieldLink RX7 13 "SnapTableModel" "ys" "[I", .constant RX7 42 (1065353216), .constant RX7 98 (-2147483648), .methodLink RX7 170 yX7_isPoint, .static yX7_isPoint, .initialized RX7, .code yX7_isPoint cX7_isPoint 1 (some .boolean), .methodLink RX7 109 yX7_size4, .static yX7_size4, .code yX7_size4 cX7_size4 1 (some .int), .constant RX7 95 (2147483647)] ++ wsX70)
def wsX7_far_r1 : List Cond := [Cond.fieldLink RX7 7 "SnapTableModel" "xs" "[J", Cond.fieldLink RX7 13 "SnapTableModel" "ys" "[I", Cond.methodLink RX7 170 yX7_isPoint, Cond.static yX7_isPoint, Cond.initialized RX7, Cond.code yX7_isPoint cX7_isPoint 1 (some .boolean), Cond.methodLink RX7 191 yX7_of, Cond.static yX7_of, Cond.code yX7_of cX7_of 2 (some .double), Cond.methodLink RX7 62 ⟨"java/lang/Double", "longBitsToDouble", "(J)D"⟩, Cond.native ⟨"java/lang/Double", "longBitsToDouble", "(J)D"⟩, Cond.static ⟨"java/lang/Double", "longBitsToDouble", "(J)D"⟩, Cond.initialized "java/lang/Double", Cond.methodLink RX7 194 yX7_bits, Cond.static yX7_bits, Cond.code yX7_bits cX7_bits 2 (some .long), Cond.methodLink RX7 68 yJxe99ae_doubleToLongBits_ccdee, Cond.static yJxe99ae_doubleToLongBits_ccdee, Cond.initialized RJxe99ae, Cond.code yJxe99ae_doubleToLongBits_ccdee cJxe99ae_doubleToLongBits_ccdee 2 (some .long), Cond.methodLink RJxe99ae 134 ⟨"java/lang/Double", "doubleToRawLongBits", "(D)J"⟩, Cond.native ⟨"java/lang/Double", "doubleToRawLongBits", "(D)J"⟩, Cond.static ⟨"java/lang/Double", "doubleToRawLongBits", "(D)J"⟩, Cond.constantLong RJxe99ae 137 (9221120237041090560)]
def wsX7_far_r2 : List Cond := [Cond.methodLink RJxe99ae 122 yJxe99ae_isNaN_b9ae7, Cond.static yJxe99ae_isNaN_b9ae7, Cond.code yJxe99ae_isNaN_b9ae7 cJxe99ae_isNaN_b9ae7 2 (some .boolean), Cond.methodLink RX7 74 yX7_size, Cond.static yX7_size, Cond.code yX7_size cX7_size 2 (some .long), Cond.constantLong RX7 72 (9223372036854775807), Cond.methodLink RX7 197 yX7_of4, Cond.static yX7_of4, Cond.code yX7_of4 cX7_of4 1 (some .float), Cond.methodLink RX7 99 ⟨"java/lang/Float", "intBitsToFloat", "(I)F"⟩, Cond.native ⟨"java/lang/Float", "intBitsToFloat", "(I)F"⟩, Cond.static ⟨"java/lang/Float", "intBitsToFloat", "(I)F"⟩, Cond.initialized "java/lang/Float", Cond.methodLink RX7 200 yX7_bits4, Cond.static yX7_bits4, Cond.code yX7_bits4 cX7_bits4 1 (some .int), Cond.methodLink RX7 105 yJxf58ca_floatToIntBits_5c35a, Cond.static yJxf58ca_floatToIntBits_5c35a, Cond.initialized RJxf58ca, Cond.code yJxf58ca_floatToIntBits_5c35a cJxf58ca_floatToIntBits_5c35a 1 (some .int), Cond.methodLink RJxf58ca 74 ⟨"java/lang/Float", "floatToRawIntBits", "(F)I"⟩, Cond.native ⟨"java/lang/Float", "floatToRawIntBits", "(F)I"⟩, Cond.static ⟨"java/lang/Float", "floatToRawIntBits", "(F)I"⟩]
def wsX7_far_r3 : List Cond := [Cond.constant RJxf58ca 77 (2143289344), Cond.methodLink RJxf58ca 59 yJxf58ca_isNaN_12338, Cond.static yJxf58ca_isNaN_12338, Cond.code yJxf58ca_isNaN_12338 cJxf58ca_isNaN_12338 1 (some .boolean), Cond.methodLink RX7 109 yX7_size4, Cond.static yX7_size4, Cond.code yX7_size4 cX7_size4 1 (some .int), Cond.constant RX7 95 (2147483647)]
def wsX7_far : List Cond := .code yX7_far cX7_far 8 (some .long) :: ((wsX7_far_r1 ++ (wsX7_far_r2 ++ wsX7_far_r3)) ++ wsX70)
def wsX7_cell_r1 : List Cond := [Cond.fieldLink RX7 7 "SnapTableModel" "xs" "[J", Cond.fieldLink RX7 30 "SnapTableModel" "step" "J", Cond.methodLink RX7 170 yX7_isPoint, Cond.static yX7_isPoint, Cond.initialized RX7, Cond.code yX7_isPoint cX7_isPoint 1 (some .boolean), Cond.methodLink RX7 191 yX7_of, Cond.static yX7_of, Cond.code yX7_of cX7_of 2 (some .double), Cond.methodLink RX7 62 ⟨"java/lang/Double", "longBitsToDouble", "(J)D"⟩, Cond.native ⟨"java/lang/Double", "longBitsToDouble", "(J)D"⟩, Cond.static ⟨"java/lang/Double", "longBitsToDouble", "(J)D"⟩, Cond.initialized "java/lang/Double", Cond.methodLink RX7 194 yX7_bits, Cond.static yX7_bits, Cond.code yX7_bits cX7_bits 2 (some .long), Cond.methodLink RX7 68 yJxe99ae_doubleToLongBits_ccdee, Cond.static yJxe99ae_doubleToLongBits_ccdee, Cond.initialized RJxe99ae, Cond.code yJxe99ae_doubleToLongBits_ccdee cJxe99ae_doubleToLongBits_ccdee 2 (some .long), Cond.methodLink RJxe99ae 134 ⟨"java/lang/Double", "doubleToRawLongBits", "(D)J"⟩, Cond.native ⟨"java/lang/Double", "doubleToRawLongBits", "(D)J"⟩, Cond.static ⟨"java/lang/Double", "doubleToRawLongBits", "(D)J"⟩, Cond.constantLong RJxe99ae 137 (9221120237041090560)]
def wsX7_cell_r2 : List Cond := [Cond.methodLink RJxe99ae 122 yJxe99ae_isNaN_b9ae7, Cond.static yJxe99ae_isNaN_b9ae7, Cond.code yJxe99ae_isNaN_b9ae7 cJxe99ae_isNaN_b9ae7 2 (some .boolean), Cond.methodLink RX7 203 yX7_whole, Cond.static yX7_whole, Cond.code yX7_whole cX7_whole 15 (some .long), Cond.constantLong RX7 83 (-9223372036854775808), Cond.constantLong RX7 85 (4602678819172646912), Cond.constantLong RX7 28 (4607182418800017408), Cond.constantLong RX7 87 (2), Cond.methodLink RX7 74 yX7_size, Cond.static yX7_size, Cond.code yX7_size cX7_size 2 (some .long), Cond.constantLong RX7 72 (9223372036854775807), Cond.methodLink RX7 89 yX7_isOdd, Cond.static yX7_isOdd, Cond.code yX7_isOdd cX7_isOdd 3 (some .boolean), Cond.methodLink RX7 210 yX7_whole32, Cond.static yX7_whole32, Cond.code yX7_whole32 cX7_whole32 2 (some .int), Cond.constantDouble RX7 93 (4746794007244308480), Cond.constant RX7 95 (2147483647), Cond.constantDouble RX7 96 (13970166044103278592), Cond.constant RX7 98 (-2147483648)]
def wsX7_cell : List Cond := .code yX7_cell cX7_cell 2 (some .int) :: ((wsX7_cell_r1 ++ wsX7_cell_r2) ++ wsX70)
def wsX7_mark_r1 : List Cond := [Cond.fieldLink RX7 13 "SnapTableModel" "ys" "[I", Cond.fieldLink RX7 43 "SnapTableModel" "grain" "I", Cond.methodLink RX7 170 yX7_isPoint, Cond.static yX7_isPoint, Cond.initialized RX7, Cond.code yX7_isPoint cX7_isPoint 1 (some .boolean), Cond.methodLink RX7 197 yX7_of4, Cond.static yX7_of4, Cond.code yX7_of4 cX7_of4 1 (some .float), Cond.methodLink RX7 99 ⟨"java/lang/Float", "intBitsToFloat", "(I)F"⟩, Cond.native ⟨"java/lang/Float", "intBitsToFloat", "(I)F"⟩, Cond.static ⟨"java/lang/Float", "intBitsToFloat", "(I)F"⟩, Cond.initialized "java/lang/Float", Cond.methodLink RX7 200 yX7_bits4, Cond.static yX7_bits4, Cond.code yX7_bits4 cX7_bits4 1 (some .int), Cond.methodLink RX7 105 yJxf58ca_floatToIntBits_5c35a, Cond.static yJxf58ca_floatToIntBits_5c35a, Cond.initialized RJxf58ca, Cond.code yJxf58ca_floatToIntBits_5c35a cJxf58ca_floatToIntBits_5c35a 1 (some .int), Cond.methodLink RJxf58ca 74 ⟨"java/lang/Float", "floatToRawIntBits", "(F)I"⟩, Cond.native ⟨"java/lang/Float", "floatToRawIntBits", "(F)I"⟩, Cond.static ⟨"java/lang/Float", "floatToRawIntBits", "(F)I"⟩, Cond.constant RJxf58ca 77 (2143289344)]
def wsX7_mark_r2 : List Cond := [Cond.methodLink RJxf58ca 59 yJxf58ca_isNaN_12338, Cond.static yJxf58ca_isNaN_12338, Cond.code yJxf58ca_isNaN_12338 cJxf58ca_isNaN_12338 1 (some .boolean), Cond.methodLink RX7 207 yX7_whole4, Cond.static yX7_whole4, Cond.code yX7_whole4 cX7_whole4 9 (some .int), Cond.constant RX7 98 (-2147483648), Cond.constant RX7 116 (1056964608), Cond.constant RX7 42 (1065353216), Cond.methodLink RX7 109 yX7_size4, Cond.static yX7_size4, Cond.code yX7_size4 cX7_size4 1 (some .int), Cond.constant RX7 95 (2147483647), Cond.methodLink RX7 214 yX7_whole64, Cond.static yX7_whole64, Cond.code yX7_whole64 cX7_whole64 1 (some .long), Cond.constantFloat RX7 117 (1593835520), Cond.constantLong RX7 72 (9223372036854775807), Cond.constantFloat RX7 118 (3741319168), Cond.constantLong RX7 83 (-9223372036854775808)]
def wsX7_mark : List Cond := .code yX7_mark cX7_mark 2 (some .long) :: ((wsX7_mark_r1 ++ wsX7_mark_r2) ++ wsX70)
def wsX7_gap_r1 : List Cond := [Cond.methodLink RX7 170 yX7_isPoint, Cond.static yX7_isPoint, Cond.initialized RX7, Cond.code yX7_isPoint cX7_isPoint 1 (some .boolean), Cond.methodLink RX7 218 yX7_cell, Cond.instanceMethod yX7_cell, Cond.selects RX7 yX7_cell yX7_cell, Cond.code yX7_cell cX7_cell 2 (some .int), Cond.fieldLink RX7 7 "SnapTableModel" "xs" "[J", Cond.fieldLink RX7 30 "SnapTableModel" "step" "J", Cond.methodLink RX7 191 yX7_of, Cond.static yX7_of, Cond.code yX7_of cX7_of 2 (some .double), Cond.methodLink RX7 62 ⟨"java/lang/Double", "longBitsToDouble", "(J)D"⟩, Cond.native ⟨"java/lang/Double", "longBitsToDouble", "(J)D"⟩, Cond.static ⟨"java/lang/Double", "longBitsToDouble", "(J)D"⟩, Cond.initialized "java/lang/Double", Cond.methodLink RX7 194 yX7_bits, Cond.static yX7_bits, Cond.code yX7_bits cX7_bits 2 (some .long), Cond.methodLink RX7 68 yJxe99ae_doubleToLongBits_ccdee, Cond.static yJxe99ae_doubleToLongBits_ccdee, Cond.initialized RJxe99ae, Cond.code yJxe99ae_doubleToLongBits_ccdee cJxe99ae_doubleToLongBits_ccdee 2 (some .long)]
def wsX7_gap_r2 : List Cond := [Cond.methodLink RJxe99ae 134 ⟨"java/lang/Double", "doubleToRawLongBits", "(D)J"⟩, Cond.native ⟨"java/lang/Double", "doubleToRawLongBits", "(D)J"⟩, Cond.static ⟨"java/lang/Double", "doubleToRawLongBits", "(D)J"⟩, Cond.constantLong RJxe99ae 137 (9221120237041090560), Cond.methodLink RJxe99ae 122 yJxe99ae_isNaN_b9ae7, Cond.static yJxe99ae_isNaN_b9ae7, Cond.code yJxe99ae_isNaN_b9ae7 cJxe99ae_isNaN_b9ae7 2 (some .boolean), Cond.methodLink RX7 203 yX7_whole, Cond.static yX7_whole, Cond.code yX7_whole cX7_whole 15 (some .long), Cond.constantLong RX7 83 (-9223372036854775808), Cond.constantLong RX7 85 (4602678819172646912), Cond.constantLong RX7 28 (4607182418800017408), Cond.constantLong RX7 87 (2), Cond.methodLink RX7 74 yX7_size, Cond.static yX7_size, Cond.code yX7_size cX7_size 2 (some .long), Cond.constantLong RX7 72 (9223372036854775807), Cond.methodLink RX7 89 yX7_isOdd, Cond.static yX7_isOdd, Cond.code yX7_isOdd cX7_isOdd 3 (some .boolean), Cond.methodLink RX7 210 yX7_whole32, Cond.static yX7_whole32, Cond.code yX7_whole32 cX7_whole32 2 (some .int)]
def wsX7_gap_r3 : List Cond := [Cond.constantDouble RX7 93 (4746794007244308480), Cond.constant RX7 95 (2147483647), Cond.constantDouble RX7 96 (13970166044103278592), Cond.constant RX7 98 (-2147483648)]
def wsX7_gap : List Cond := .code yX7_gap cX7_gap 4 (some .int) :: ((wsX7_gap_r1 ++ (wsX7_gap_r2 ++ wsX7_gap_r3)) ++ wsX70)
def wsX7_rise_r1 : List Cond := [Cond.methodLink RX7 170 yX7_isPoint, Cond.static yX7_isPoint, Cond.initialized RX7, Cond.code yX7_isPoint cX7_isPoint 1 (some .boolean), Cond.methodLink RX7 221 yX7_mark, Cond.instanceMethod yX7_mark, Cond.selects RX7 yX7_mark yX7_mark, Cond.code yX7_mark cX7_mark 2 (some .long), Cond.fieldLink RX7 13 "SnapTableModel" "ys" "[I", Cond.fieldLink RX7 43 "SnapTableModel" "grain" "I", Cond.methodLink RX7 197 yX7_of4, Cond.static yX7_of4, Cond.code yX7_of4 cX7_of4 1 (some .float), Cond.methodLink RX7 99 ⟨"java/lang/Float", "intBitsToFloat", "(I)F"⟩, Cond.native ⟨"java/lang/Float", "intBitsToFloat", "(I)F"⟩, Cond.static ⟨"java/lang/Float", "intBitsToFloat", "(I)F"⟩, Cond.initialized "java/lang/Float", Cond.methodLink RX7 200 yX7_bits4, Cond.static yX7_bits4, Cond.code yX7_bits4 cX7_bits4 1 (some .int), Cond.methodLink RX7 105 yJxf58ca_floatToIntBits_5c35a, Cond.static yJxf58ca_floatToIntBits_5c35a, Cond.initialized RJxf58ca, Cond.code yJxf58ca_floatToIntBits_5c35a cJxf58ca_floatToIntBits_5c35a 1 (some .int)]
def wsX7_rise_r2 : List Cond := [Cond.methodLink RJxf58ca 74 ⟨"java/lang/Float", "floatToRawIntBits", "(F)I"⟩, Cond.native ⟨"java/lang/Float", "floatToRawIntBits", "(F)I"⟩, Cond.static ⟨"java/lang/Float", "floatToRawIntBits", "(F)I"⟩, Cond.constant RJxf58ca 77 (2143289344), Cond.methodLink RJxf58ca 59 yJxf58ca_isNaN_12338, Cond.static yJxf58ca_isNaN_12338, Cond.code yJxf58ca_isNaN_12338 cJxf58ca_isNaN_12338 1 (some .boolean), Cond.methodLink RX7 207 yX7_whole4, Cond.static yX7_whole4, Cond.code yX7_whole4 cX7_whole4 9 (some .int), Cond.constant RX7 98 (-2147483648), Cond.constant RX7 116 (1056964608), Cond.constant RX7 42 (1065353216), Cond.methodLink RX7 109 yX7_size4, Cond.static yX7_size4, Cond.code yX7_size4 cX7_size4 1 (some .int), Cond.constant RX7 95 (2147483647), Cond.methodLink RX7 214 yX7_whole64, Cond.static yX7_whole64, Cond.code yX7_whole64 cX7_whole64 1 (some .long), Cond.constantFloat RX7 117 (1593835520), Cond.constantLong RX7 72 (9223372036854775807), Cond.constantFloat RX7 118 (3741319168), Cond.constantLong RX7 83 (-9223372036854775808)]
def wsX7_rise : List Cond := .code yX7_rise cX7_rise 5 (some .long) :: ((wsX7_rise_r1 ++ wsX7_rise_r2) ++ wsX70)
def wsX7_edge : List Cond := .code yX7_edge cX7_edge 5 (some .long) :: ([.fieldLink RX7 7 "SnapTableModel" "xs" "[J", .methodLink RX7 129 yX7_greater, .static yX7_greater, .initialized RX7, .code yX7_greater cX7_greater 4 (some .long), .methodLink RX7 80 yX7_order, .static yX7_order, .code yX7_order cX7_order 2 (some .long), .constantLong RX7 78 (-1), .methodLink RX7 74 yX7_size, .static yX7_size, .code yX7_size cX7_size 2 (some .long), .constantLong RX7 72 (9223372036854775807), .methodLink RX7 125 yX7_lesser, .static yX7_lesser, .code yX7_lesser cX7_lesser 4 (some .long)] ++ wsX70)
def wsX7_rim : List Cond := .code yX7_rim cX7_rim 4 (some .int) :: ([.fieldLink RX7 13 "SnapTableModel" "ys" "[I", .methodLink RX7 136 yX7_greater4, .static yX7_greater4, .initialized RX7, .code yX7_greater4 cX7_greater4 2 (some .int), .methodLink RX7 113 yX7_order4, .static yX7_order4, .code yX7_order4 cX7_order4 1 (some .int), .methodLink RX7 109 yX7_size4, .static yX7_size4, .code yX7_size4 cX7_size4 1 (some .int), .constant RX7 95 (2147483647), .methodLink RX7 132 yX7_lesser4, .static yX7_lesser4, .code yX7_lesser4 cX7_lesser4 2 (some .int)] ++ wsX70)
def wsX7_neighbour_r1 : List Cond := [Cond.methodLink RX7 170 yX7_isPoint, Cond.static yX7_isPoint, Cond.initialized RX7, Cond.code yX7_isPoint cX7_isPoint 1 (some .boolean), Cond.methodLink RX7 225 yX7_far, Cond.instanceMethod yX7_far, Cond.selects RX7 yX7_far yX7_far, Cond.code yX7_far cX7_far 8 (some .long), Cond.fieldLink RX7 7 "SnapTableModel" "xs" "[J", Cond.fieldLink RX7 13 "SnapTableModel" "ys" "[I", Cond.methodLink RX7 191 yX7_of, Cond.static yX7_of, Cond.code yX7_of cX7_of 2 (some .double), Cond.methodLink RX7 62 ⟨"java/lang/Double", "longBitsToDouble", "(J)D"⟩, Cond.native ⟨"java/lang/Double", "longBitsToDouble", "(J)D"⟩, Cond.static ⟨"java/lang/Double", "longBitsToDouble", "(J)D"⟩, Cond.initialized "java/lang/Double", Cond.methodLink RX7 194 yX7_bits, Cond.static yX7_bits, Cond.code yX7_bits cX7_bits 2 (some .long), Cond.methodLink RX7 68 yJxe99ae_doubleToLongBits_ccdee, Cond.static yJxe99ae_doubleToLongBits_ccdee, Cond.initialized RJxe99ae, Cond.code yJxe99ae_doubleToLongBits_ccdee cJxe99ae_doubleToLongBits_ccdee 2 (some .long)]
def wsX7_neighbour_r2 : List Cond := [Cond.methodLink RJxe99ae 134 ⟨"java/lang/Double", "doubleToRawLongBits", "(D)J"⟩, Cond.native ⟨"java/lang/Double", "doubleToRawLongBits", "(D)J"⟩, Cond.static ⟨"java/lang/Double", "doubleToRawLongBits", "(D)J"⟩, Cond.constantLong RJxe99ae 137 (9221120237041090560), Cond.methodLink RJxe99ae 122 yJxe99ae_isNaN_b9ae7, Cond.static yJxe99ae_isNaN_b9ae7, Cond.code yJxe99ae_isNaN_b9ae7 cJxe99ae_isNaN_b9ae7 2 (some .boolean), Cond.methodLink RX7 74 yX7_size, Cond.static yX7_size, Cond.code yX7_size cX7_size 2 (some .long), Cond.constantLong RX7 72 (9223372036854775807), Cond.methodLink RX7 197 yX7_of4, Cond.static yX7_of4, Cond.code yX7_of4 cX7_of4 1 (some .float), Cond.methodLink RX7 99 ⟨"java/lang/Float", "intBitsToFloat", "(I)F"⟩, Cond.native ⟨"java/lang/Float", "intBitsToFloat", "(I)F"⟩, Cond.static ⟨"java/lang/Float", "intBitsToFloat", "(I)F"⟩, Cond.initialized "java/lang/Float", Cond.methodLink RX7 200 yX7_bits4, Cond.static yX7_bits4, Cond.code yX7_bits4 cX7_bits4 1 (some .int), Cond.methodLink RX7 105 yJxf58ca_floatToIntBits_5c35a, Cond.static yJxf58ca_floatToIntBits_5c35a, Cond.initialized RJxf58ca]
def wsX7_neighbour_r3 : List Cond := [Cond.code yJxf58ca_floatToIntBits_5c35a cJxf58ca_floatToIntBits_5c35a 1 (some .int), Cond.methodLink RJxf58ca 74 ⟨"java/lang/Float", "floatToRawIntBits", "(F)I"⟩, Cond.native ⟨"java/lang/Float", "floatToRawIntBits", "(F)I"⟩, Cond.static ⟨"java/lang/Float", "floatToRawIntBits", "(F)I"⟩, Cond.constant RJxf58ca 77 (2143289344), Cond.methodLink RJxf58ca 59 yJxf58ca_isNaN_12338, Cond.static yJxf58ca_isNaN_12338, Cond.code yJxf58ca_isNaN_12338 cJxf58ca_isNaN_12338 1 (some .boolean), Cond.methodLink RX7 109 yX7_size4, Cond.static yX7_size4, Cond.code yX7_size4 cX7_size4 1 (some .int), Cond.constant RX7 95 (2147483647)]
def wsX7_neighbour : List Cond := .code yX7_neighbour cX7_neighbour 4 (some .int) :: ((wsX7_neighbour_r1 ++ (wsX7_neighbour_r2 ++ wsX7_neighbour_r3)) ++ wsX70)
def wsX7_column_r1 : List Cond := [Cond.methodLink RX7 218 yX7_cell, Cond.instanceMethod yX7_cell, Cond.selects RX7 yX7_cell yX7_cell, Cond.initialized RX7, Cond.code yX7_cell cX7_cell 2 (some .int), Cond.fieldLink RX7 7 "SnapTableModel" "xs" "[J", Cond.fieldLink RX7 30 "SnapTableModel" "step" "J", Cond.methodLink RX7 170 yX7_isPoint, Cond.static yX7_isPoint, Cond.code yX7_isPoint cX7_isPoint 1 (some .boolean), Cond.methodLink RX7 191 yX7_of, Cond.static yX7_of, Cond.code yX7_of cX7_of 2 (some .double), Cond.methodLink RX7 62 ⟨"java/lang/Double", "longBitsToDouble", "(J)D"⟩, Cond.native ⟨"java/lang/Double", "longBitsToDouble", "(J)D"⟩, Cond.static ⟨"java/lang/Double", "longBitsToDouble", "(J)D"⟩, Cond.initialized "java/lang/Double", Cond.methodLink RX7 194 yX7_bits, Cond.static yX7_bits, Cond.code yX7_bits cX7_bits 2 (some .long), Cond.methodLink RX7 68 yJxe99ae_doubleToLongBits_ccdee, Cond.static yJxe99ae_doubleToLongBits_ccdee, Cond.initialized RJxe99ae, Cond.code yJxe99ae_doubleToLongBits_ccdee cJxe99ae_doubleToLongBits_ccdee 2 (some .long)]
def wsX7_column_r2 : List Cond := [Cond.methodLink RJxe99ae 134 ⟨"java/lang/Double", "doubleToRawLongBits", "(D)J"⟩, Cond.native ⟨"java/lang/Double", "doubleToRawLongBits", "(D)J"⟩, Cond.static ⟨"java/lang/Double", "doubleToRawLongBits", "(D)J"⟩, Cond.constantLong RJxe99ae 137 (9221120237041090560), Cond.methodLink RJxe99ae 122 yJxe99ae_isNaN_b9ae7, Cond.static yJxe99ae_isNaN_b9ae7, Cond.code yJxe99ae_isNaN_b9ae7 cJxe99ae_isNaN_b9ae7 2 (some .boolean), Cond.methodLink RX7 203 yX7_whole, Cond.static yX7_whole, Cond.code yX7_whole cX7_whole 15 (some .long), Cond.constantLong RX7 83 (-9223372036854775808), Cond.constantLong RX7 85 (4602678819172646912), Cond.constantLong RX7 28 (4607182418800017408), Cond.constantLong RX7 87 (2), Cond.methodLink RX7 74 yX7_size, Cond.static yX7_size, Cond.code yX7_size cX7_size 2 (some .long), Cond.constantLong RX7 72 (9223372036854775807), Cond.methodLink RX7 89 yX7_isOdd, Cond.static yX7_isOdd, Cond.code yX7_isOdd cX7_isOdd 3 (some .boolean), Cond.methodLink RX7 210 yX7_whole32, Cond.static yX7_whole32, Cond.code yX7_whole32 cX7_whole32 2 (some .int)]
def wsX7_column_r3 : List Cond := [Cond.constantDouble RX7 93 (4746794007244308480), Cond.constant RX7 95 (2147483647), Cond.constantDouble RX7 96 (13970166044103278592), Cond.constant RX7 98 (-2147483648)]
def wsX7_column : List Cond := .code yX7_column cX7_column 5 (some .int) :: ((wsX7_column_r1 ++ (wsX7_column_r2 ++ wsX7_column_r3)) ++ wsX70)
def wsX7_row_r1 : List Cond := [Cond.methodLink RX7 221 yX7_mark, Cond.instanceMethod yX7_mark, Cond.selects RX7 yX7_mark yX7_mark, Cond.initialized RX7, Cond.code yX7_mark cX7_mark 2 (some .long), Cond.fieldLink RX7 13 "SnapTableModel" "ys" "[I", Cond.fieldLink RX7 43 "SnapTableModel" "grain" "I", Cond.methodLink RX7 170 yX7_isPoint, Cond.static yX7_isPoint, Cond.code yX7_isPoint cX7_isPoint 1 (some .boolean), Cond.methodLink RX7 197 yX7_of4, Cond.static yX7_of4, Cond.code yX7_of4 cX7_of4 1 (some .float), Cond.methodLink RX7 99 ⟨"java/lang/Float", "intBitsToFloat", "(I)F"⟩, Cond.native ⟨"java/lang/Float", "intBitsToFloat", "(I)F"⟩, Cond.static ⟨"java/lang/Float", "intBitsToFloat", "(I)F"⟩, Cond.initialized "java/lang/Float", Cond.methodLink RX7 200 yX7_bits4, Cond.static yX7_bits4, Cond.code yX7_bits4 cX7_bits4 1 (some .int), Cond.methodLink RX7 105 yJxf58ca_floatToIntBits_5c35a, Cond.static yJxf58ca_floatToIntBits_5c35a, Cond.initialized RJxf58ca, Cond.code yJxf58ca_floatToIntBits_5c35a cJxf58ca_floatToIntBits_5c35a 1 (some .int)]
def wsX7_row_r2 : List Cond := [Cond.methodLink RJxf58ca 74 ⟨"java/lang/Float", "floatToRawIntBits", "(F)I"⟩, Cond.native ⟨"java/lang/Float", "floatToRawIntBits", "(F)I"⟩, Cond.static ⟨"java/lang/Float", "floatToRawIntBits", "(F)I"⟩, Cond.constant RJxf58ca 77 (2143289344), Cond.methodLink RJxf58ca 59 yJxf58ca_isNaN_12338, Cond.static yJxf58ca_isNaN_12338, Cond.code yJxf58ca_isNaN_12338 cJxf58ca_isNaN_12338 1 (some .boolean), Cond.methodLink RX7 207 yX7_whole4, Cond.static yX7_whole4, Cond.code yX7_whole4 cX7_whole4 9 (some .int), Cond.constant RX7 98 (-2147483648), Cond.constant RX7 116 (1056964608), Cond.constant RX7 42 (1065353216), Cond.methodLink RX7 109 yX7_size4, Cond.static yX7_size4, Cond.code yX7_size4 cX7_size4 1 (some .int), Cond.constant RX7 95 (2147483647), Cond.methodLink RX7 214 yX7_whole64, Cond.static yX7_whole64, Cond.code yX7_whole64 cX7_whole64 1 (some .long), Cond.constantFloat RX7 117 (1593835520), Cond.constantLong RX7 72 (9223372036854775807), Cond.constantFloat RX7 118 (3741319168), Cond.constantLong RX7 83 (-9223372036854775808)]
def wsX7_row : List Cond := .code yX7_row cX7_row 7 (some .long) :: ((wsX7_row_r1 ++ wsX7_row_r2) ++ wsX70)
def wsX7_count : List Cond := .code yX7_count cX7_count 2 (some .int) :: ([.fieldLink RX7 122 "SnapTableModel" "done" "I", .fieldLink RX7 119 "SnapTableModel" "refused" "I", .fieldLink RX7 163 "SnapTableModel" "met" "I", .fieldLink RX7 139 "SnapTableModel" "trail" "I"] ++ wsX70)
def wsJ9_abs_0f7a4 : List Cond := .code yJ9_abs_0f7a4 cJ9_abs_0f7a4 1 (some .int) :: ([])
def wsJ9_abs_067f4 : List Cond := .code yJ9_abs_067f4 cJ9_abs_067f4 2 (some .long) :: ([])
def wsL_law_r1 : List Cond := [Cond.classLink RL 7 RX6, Cond.instantiable RX6 7, Cond.initialized RX6, Cond.classLink RL 10 RX7, Cond.instantiable RX7 17, Cond.initialized RX7, Cond.constantLong RL 13 (4294967295), Cond.methodLink RL 9 yX6_init, Cond.instanceMethod yX6_init, Cond.code yX6_init cX6_init 2 none, Cond.methodLink RX6 1 objectInit, Cond.instanceMethod objectInit, Cond.code objectInit ⟨#[0xb1]⟩ 1 none, Cond.classLink RX6 7 RX0, Cond.instantiable RX0 5, Cond.initialized RX0, Cond.fieldLink RX6 12 "SnapTable" "widths" "LSnapTable$Axis;", Cond.fieldLink RX6 18 "SnapTable" "heights" "LSnapTable$Axis;", Cond.classLink RX6 21 RX4, Cond.instantiable RX4 5, Cond.initialized RX4, Cond.fieldLink RX6 24 "SnapTable" "trail" "LSnapTable$Trail;", Cond.arrayClass .long, Cond.fieldLink RX6 28 "SnapTable" "guides" "[J"]
def wsL_law_r2 : List Cond := [Cond.constantLong RX6 34 (9218868437227405312), Cond.methodLink RX6 9 yX0_init, Cond.instanceMethod yX0_init, Cond.code yX0_init cX0_init 2 none, Cond.methodLink RX0 3 objectInit, Cond.fieldLink RX0 9 "SnapTable$Axis" "at" "[J", Cond.constantLong RX0 17 (-4503599627370496), Cond.fieldLink RX0 19 "SnapTable$Axis" "least" "J", Cond.constantLong RX0 23 (9218868437227405312), Cond.fieldLink RX0 25 "SnapTable$Axis" "most" "J", Cond.constantLong RX0 28 (4607182418800017408), Cond.fieldLink RX0 30 "SnapTable$Axis" "step" "J", Cond.fieldLink RX0 33 "SnapTable$Axis" "slim" "Z", Cond.instanceMethod yX4_init, Cond.code yX4_init cX4_init 1 none, Cond.methodLink RX4 1 objectInit, Cond.arrayClass .int, Cond.fieldLink RX4 9 "SnapTable$Trail" "points" "[I", Cond.fieldLink RX4 13 "SnapTable$Trail" "widths" "[J", Cond.fieldLink RX4 17 "SnapTable$Trail" "heights" "[J", Cond.methodLink RL 12 yX7_init, Cond.instanceMethod yX7_init, Cond.code yX7_init cX7_init 1 none, Cond.methodLink RX7 1 objectInit]
def wsL_law_r3 : List Cond := [Cond.fieldLink RX7 7 "SnapTableModel" "xs" "[J", Cond.fieldLink RX7 13 "SnapTableModel" "ys" "[I", Cond.constantLong RX7 17 (-4503599627370496), Cond.fieldLink RX7 19 "SnapTableModel" "left" "J", Cond.constantLong RX7 23 (9218868437227405312), Cond.fieldLink RX7 25 "SnapTableModel" "right" "J", Cond.constantLong RX7 28 (4607182418800017408), Cond.fieldLink RX7 30 "SnapTableModel" "step" "J", Cond.constant RX7 33 (-8388608), Cond.fieldLink RX7 34 "SnapTableModel" "low" "I", Cond.constant RX7 38 (2139095040), Cond.fieldLink RX7 39 "SnapTableModel" "high" "I", Cond.constant RX7 42 (1065353216), Cond.fieldLink RX7 43 "SnapTableModel" "grain" "I", Cond.fieldLink RX7 46 "SnapTableModel" "guideAt" "[J", Cond.arrayClass .boolean, Cond.fieldLink RX7 49 "SnapTableModel" "guideOn" "[Z", Cond.fieldLink RX7 53 "SnapTableModel" "trailPoint" "[I", Cond.fieldLink RX7 56 "SnapTableModel" "trailX" "[J", Cond.fieldLink RX7 59 "SnapTableModel" "trailY" "[I", Cond.methodLink RL 15 yX6_place, Cond.instanceMethod yX6_place, Cond.selects RX6 yX6_place yX6_place, Cond.code yX6_place cX6_place 7 (some .int)]
def wsL_law_r4 : List Cond := [Cond.methodLink RX6 36 yX3_widened, Cond.static yX3_widened, Cond.initialized RX3, Cond.code yX3_widened cX3_widened 4 (some .long), Cond.constantLong RX3 9 (-9223372036854775808), Cond.constant RX3 13 (2147483647), Cond.constant RX3 14 (2139095040), Cond.constantLong RX3 15 (9218868437227405312), Cond.constant RX3 17 (8388608), Cond.constantDouble RX3 18 (3936146074321813504), Cond.constantLong RX3 24 (4035225266123964416), Cond.methodLink RX3 20 yX1_ofSize, Cond.static yX1_ofSize, Cond.initialized RX1, Cond.code yX1_ofSize cX1_ofSize 5 (some .long), Cond.constantLong RX1 11 (9218868437227405312), Cond.constantDouble RX1 65 (4841369599423283200), Cond.methodLink RX1 39 yX2_beyondAll, Cond.static yX2_beyondAll, Cond.initialized RX2, Cond.code yX2_beyondAll cX2_beyondAll 0 (some .double), Cond.constantDouble RX2 27 (9218868437227405312), Cond.methodLink RX1 57 yX2_floorFromOne, Cond.static yX2_floorFromOne]
def wsL_law_r5 : List Cond := [Cond.code yX2_floorFromOne cX2_floorFromOne 6 (some .int), Cond.methodLink RX2 31 yX2_leap, Cond.static yX2_leap, Cond.code yX2_leap cX2_leap 1 (some .double), Cond.constantDouble RX2 7 (4611686018427387904), Cond.constantDouble RX2 9 (4616189618054758400), Cond.constantDouble RX2 11 (4625196817309499392), Cond.constantDouble RX2 13 (4643211215818981376), Cond.constantDouble RX2 15 (4679240012837945344), Cond.constantDouble RX2 17 (4751297606875873280), Cond.constantDouble RX2 19 (4895412794951729152), Cond.constantDouble RX2 21 (5183643171103440896), Cond.constantDouble RX2 23 (5760103923406864384), Cond.constantDouble RX2 25 (6913025428013711360), Cond.methodLink RX1 61 yX2_floorBelowOne, Cond.static yX2_floorBelowOne, Cond.code yX2_floorBelowOne cX2_floorBelowOne 7 (some .int), Cond.methodLink RX1 49 yX2_scaled, Cond.static yX2_scaled, Cond.code yX2_scaled cX2_scaled 7 (some .double), Cond.methodLink RX6 42 yX6_isPoint, Cond.static yX6_isPoint, Cond.code yX6_isPoint cX6_isPoint 1 (some .boolean), Cond.methodLink RX6 46 yX6_refuse]
def wsL_law_r6 : List Cond := [Cond.instanceMethod yX6_refuse, Cond.selects RX6 yX6_refuse yX6_refuse, Cond.code yX6_refuse cX6_refuse 2 (some .int), Cond.fieldLink RX6 169 "SnapTable" "refused" "I", Cond.methodLink RX6 50 yX1_isNone, Cond.static yX1_isNone, Cond.code yX1_isNone cX1_isNone 2 (some .boolean), Cond.constantLong RX1 9 (9223372036854775807), Cond.methodLink RX6 54 yX1_isInfinite, Cond.static yX1_isInfinite, Cond.code yX1_isInfinite cX1_isInfinite 2 (some .boolean), Cond.methodLink RX6 57 yX6_putWalled, Cond.instanceMethod yX6_putWalled, Cond.selects RX6 yX6_putWalled yX6_putWalled, Cond.code yX6_putWalled cX6_putWalled 10 (some .int), Cond.fieldLink RX6 172 "SnapTable" "met" "I", Cond.methodLink RX6 182 yX0_walled, Cond.instanceMethod yX0_walled, Cond.selects RX0 yX0_walled yX0_walled, Cond.code yX0_walled cX0_walled 3 (some .long), Cond.methodLink RX0 37 yX1_lesser, Cond.static yX1_lesser, Cond.code yX1_lesser cX1_lesser 4 (some .long), Cond.methodLink RX1 21 yX1_rank]
def wsL_law_r7 : List Cond := [Cond.static yX1_rank, Cond.code yX1_rank cX1_rank 2 (some .long), Cond.methodLink RX0 41 yX1_greater, Cond.static yX1_greater, Cond.code yX1_greater cX1_greater 4 (some .long), Cond.methodLink RX6 102 yX6_put, Cond.instanceMethod yX6_put, Cond.selects RX6 yX6_put yX6_put, Cond.code yX6_put cX6_put 6 (some .int), Cond.methodLink RX6 185 yX4_keep, Cond.instanceMethod yX4_keep, Cond.selects RX4 yX4_keep yX4_keep, Cond.code yX4_keep cX4_keep 6 none, Cond.fieldLink RX4 20 "SnapTable$Trail" "next" "I", Cond.fieldLink RX4 24 "SnapTable$Trail" "size" "I", Cond.methodLink RX6 72 yX6_finish, Cond.instanceMethod yX6_finish, Cond.selects RX6 yX6_finish yX6_finish, Cond.code yX6_finish cX6_finish 1 (some .int), Cond.fieldLink RX6 166 "SnapTable" "done" "I", Cond.methodLink RL 19 yX7_place, Cond.instanceMethod yX7_place, Cond.selects RX7 yX7_place yX7_place, Cond.code yX7_place cX7_place 5 (some .int)]
def wsL_law_r8 : List Cond := [Cond.methodLink RX7 170 yX7_isPoint, Cond.static yX7_isPoint, Cond.code yX7_isPoint cX7_isPoint 1 (some .boolean), Cond.methodLink RX7 156 yX7_refuses, Cond.instanceMethod yX7_refuses, Cond.selects RX7 yX7_refuses yX7_refuses, Cond.code yX7_refuses cX7_refuses 2 (some .int), Cond.fieldLink RX7 119 "SnapTableModel" "refused" "I", Cond.methodLink RX7 173 yX7_isNone, Cond.static yX7_isNone, Cond.code yX7_isNone cX7_isNone 2 (some .boolean), Cond.methodLink RX7 74 yX7_size, Cond.static yX7_size, Cond.code yX7_size cX7_size 2 (some .long), Cond.constantLong RX7 72 (9223372036854775807), Cond.methodLink RX7 176 yX7_isNone4, Cond.static yX7_isNone4, Cond.code yX7_isNone4 cX7_isNone4 1 (some .boolean), Cond.methodLink RX7 109 yX7_size4, Cond.static yX7_size4, Cond.code yX7_size4 cX7_size4 1 (some .int), Cond.constant RX7 95 (2147483647), Cond.methodLink RX7 148 yX7_isInfinite, Cond.static yX7_isInfinite]
def wsL_law_r9 : List Cond := [Cond.code yX7_isInfinite cX7_isInfinite 2 (some .boolean), Cond.methodLink RX7 152 yX7_isInfinite4, Cond.static yX7_isInfinite4, Cond.code yX7_isInfinite4 cX7_isInfinite4 1 (some .boolean), Cond.methodLink RX7 179 yX7_comes, Cond.instanceMethod yX7_comes, Cond.selects RX7 yX7_comes yX7_comes, Cond.code yX7_comes cX7_comes 8 (some .int), Cond.fieldLink RX7 163 "SnapTableModel" "met" "I", Cond.methodLink RX7 142 yX7_walled, Cond.instanceMethod yX7_walled, Cond.selects RX7 yX7_walled yX7_walled, Cond.code yX7_walled cX7_walled 3 (some .long), Cond.methodLink RX7 125 yX7_lesser, Cond.static yX7_lesser, Cond.code yX7_lesser cX7_lesser 4 (some .long), Cond.methodLink RX7 80 yX7_order, Cond.static yX7_order, Cond.code yX7_order cX7_order 2 (some .long), Cond.constantLong RX7 78 (-1), Cond.methodLink RX7 129 yX7_greater, Cond.static yX7_greater, Cond.code yX7_greater cX7_greater 4 (some .long), Cond.methodLink RX7 145 yX7_railed]
def wsL_law_r10 : List Cond := [Cond.instanceMethod yX7_railed, Cond.selects RX7 yX7_railed yX7_railed, Cond.code yX7_railed cX7_railed 2 (some .int), Cond.methodLink RX7 132 yX7_lesser4, Cond.static yX7_lesser4, Cond.code yX7_lesser4 cX7_lesser4 2 (some .int), Cond.methodLink RX7 113 yX7_order4, Cond.static yX7_order4, Cond.code yX7_order4 cX7_order4 1 (some .int), Cond.methodLink RX7 136 yX7_greater4, Cond.static yX7_greater4, Cond.code yX7_greater4 cX7_greater4 2 (some .int), Cond.methodLink RX7 159 yX7_keeps, Cond.instanceMethod yX7_keeps, Cond.selects RX7 yX7_keeps yX7_keeps, Cond.code yX7_keeps cX7_keeps 3 none, Cond.fieldLink RX7 139 "SnapTableModel" "trail" "I", Cond.methodLink RX7 166 yX7_does, Cond.instanceMethod yX7_does, Cond.selects RX7 yX7_does yX7_does, Cond.code yX7_does cX7_does 1 (some .int), Cond.fieldLink RX7 122 "SnapTableModel" "done" "I", Cond.methodLink RL 20 yX6_walls, Cond.instanceMethod yX6_walls]
def wsL_law_r11 : List Cond := [Cond.selects RX6 yX6_walls yX6_walls, Cond.code yX6_walls cX6_walls 5 (some .int), Cond.methodLink RX6 61 yX6_fence, Cond.instanceMethod yX6_fence, Cond.selects RX6 yX6_fence yX6_fence, Cond.code yX6_fence cX6_fence 6 (some .int), Cond.methodLink RX6 109 yX1_value, Cond.static yX1_value, Cond.code yX1_value cX1_value 4 (some .double), Cond.methodLink RX1 31 yX1_valueOfSize, Cond.static yX1_valueOfSize, Cond.code yX1_valueOfSize cX1_valueOfSize 5 (some .double), Cond.constantLong RX1 45 (4503599627370495), Cond.constantDouble RX1 47 (4372995238176751616), Cond.methodLink RX1 35 yX1_isInfinite, Cond.methodLink RX6 175 yX0_wallAll, Cond.instanceMethod yX0_wallAll, Cond.selects RX0 yX0_wallAll yX0_wallAll, Cond.code yX0_wallAll cX0_wallAll 9 (some .int), Cond.methodLink RX0 44 yX0_walled, Cond.methodLink RX6 179 yX4_clear, Cond.instanceMethod yX4_clear, Cond.selects RX4 yX4_clear yX4_clear, Cond.code yX4_clear cX4_clear 1 none]
def wsL_law_r12 : List Cond := [Cond.methodLink RL 24 yX7_walls, Cond.instanceMethod yX7_walls, Cond.selects RX7 yX7_walls yX7_walls, Cond.code yX7_walls cX7_walls 8 (some .int), Cond.methodLink RX7 183 yX7_isBelow, Cond.static yX7_isBelow, Cond.code yX7_isBelow cX7_isBelow 4 (some .boolean), Cond.methodLink RL 25 yX6_rails, Cond.instanceMethod yX6_rails, Cond.selects RX6 yX6_rails yX6_rails, Cond.code yX6_rails cX6_rails 3 (some .int), Cond.methodLink RL 29 yX7_rails, Cond.instanceMethod yX7_rails, Cond.selects RX7 yX7_rails yX7_rails, Cond.code yX7_rails cX7_rails 5 (some .int), Cond.methodLink RX7 187 yX7_isBelow4, Cond.static yX7_isBelow4, Cond.code yX7_isBelow4 cX7_isBelow4 2 (some .boolean), Cond.methodLink RL 30 yX6_steps, Cond.instanceMethod yX6_steps, Cond.selects RX6 yX6_steps yX6_steps, Cond.code yX6_steps cX6_steps 6 (some .int), Cond.methodLink RX6 65 yX1_isAboveZero, Cond.static yX1_isAboveZero]
def wsL_law_r13 : List Cond := [Cond.code yX1_isAboveZero cX1_isAboveZero 2 (some .boolean), Cond.methodLink RL 34 yX7_steps, Cond.instanceMethod yX7_steps, Cond.selects RX7 yX7_steps yX7_steps, Cond.code yX7_steps cX7_steps 4 (some .int), Cond.methodLink RL 35 yX6_move, Cond.instanceMethod yX6_move, Cond.selects RX6 yX6_move yX6_move, Cond.code yX6_move cX6_move 7 (some .int), Cond.methodLink RX6 79 yX0_sum, Cond.instanceMethod yX0_sum, Cond.selects RX0 yX0_sum yX0_sum, Cond.code yX0_sum cX0_sum 11 (some .long), Cond.constantLong RX0 52 (-9223372036854775808), Cond.methodLink RX0 48 yX1_value, Cond.methodLink RX0 54 yX1_of, Cond.static yX1_of, Cond.code yX1_of cX1_of 2 (some .long), Cond.constantLong RX1 13 (-9223372036854775808), Cond.methodLink RX1 53 yX1_ofSize, Cond.methodLink RL 38 yX7_move, Cond.instanceMethod yX7_move, Cond.selects RX7 yX7_move yX7_move, Cond.code yX7_move cX7_move 5 (some .int)]
def wsL_law_r14 : List Cond := [Cond.methodLink RX7 191 yX7_of, Cond.static yX7_of, Cond.code yX7_of cX7_of 2 (some .double), Cond.methodLink RX7 62 ⟨"java/lang/Double", "longBitsToDouble", "(J)D"⟩, Cond.native ⟨"java/lang/Double", "longBitsToDouble", "(J)D"⟩, Cond.static ⟨"java/lang/Double", "longBitsToDouble", "(J)D"⟩, Cond.initialized "java/lang/Double", Cond.methodLink RX7 194 yX7_bits, Cond.static yX7_bits, Cond.code yX7_bits cX7_bits 2 (some .long), Cond.methodLink RX7 68 yJxe99ae_doubleToLongBits_ccdee, Cond.static yJxe99ae_doubleToLongBits_ccdee, Cond.initialized RJxe99ae, Cond.code yJxe99ae_doubleToLongBits_ccdee cJxe99ae_doubleToLongBits_ccdee 2 (some .long), Cond.methodLink RJxe99ae 134 ⟨"java/lang/Double", "doubleToRawLongBits", "(D)J"⟩, Cond.native ⟨"java/lang/Double", "doubleToRawLongBits", "(D)J"⟩, Cond.static ⟨"java/lang/Double", "doubleToRawLongBits", "(D)J"⟩, Cond.constantLong RJxe99ae 137 (9221120237041090560), Cond.methodLink RJxe99ae 122 yJxe99ae_isNaN_b9ae7, Cond.static yJxe99ae_isNaN_b9ae7, Cond.code yJxe99ae_isNaN_b9ae7 cJxe99ae_isNaN_b9ae7 2 (some .boolean), Cond.methodLink RX7 197 yX7_of4, Cond.static yX7_of4, Cond.code yX7_of4 cX7_of4 1 (some .float)]
def wsL_law_r15 : List Cond := [Cond.methodLink RX7 99 ⟨"java/lang/Float", "intBitsToFloat", "(I)F"⟩, Cond.native ⟨"java/lang/Float", "intBitsToFloat", "(I)F"⟩, Cond.static ⟨"java/lang/Float", "intBitsToFloat", "(I)F"⟩, Cond.initialized "java/lang/Float", Cond.methodLink RX7 200 yX7_bits4, Cond.static yX7_bits4, Cond.code yX7_bits4 cX7_bits4 1 (some .int), Cond.methodLink RX7 105 yJxf58ca_floatToIntBits_5c35a, Cond.static yJxf58ca_floatToIntBits_5c35a, Cond.initialized RJxf58ca, Cond.code yJxf58ca_floatToIntBits_5c35a cJxf58ca_floatToIntBits_5c35a 1 (some .int), Cond.methodLink RJxf58ca 74 ⟨"java/lang/Float", "floatToRawIntBits", "(F)I"⟩, Cond.native ⟨"java/lang/Float", "floatToRawIntBits", "(F)I"⟩, Cond.static ⟨"java/lang/Float", "floatToRawIntBits", "(F)I"⟩, Cond.constant RJxf58ca 77 (2143289344), Cond.methodLink RJxf58ca 59 yJxf58ca_isNaN_12338, Cond.static yJxf58ca_isNaN_12338, Cond.code yJxf58ca_isNaN_12338 cJxf58ca_isNaN_12338 1 (some .boolean), Cond.methodLink RL 39 yX6_snap, Cond.instanceMethod yX6_snap, Cond.selects RX6 yX6_snap yX6_snap, Cond.code yX6_snap cX6_snap 3 (some .int), Cond.methodLink RX6 83 yX5_isWay, Cond.static yX5_isWay]
def wsL_law_r16 : List Cond := [Cond.initialized RX5, Cond.code yX5_isWay cX5_isWay 1 (some .boolean), Cond.methodLink RX6 88 yX0_snapped, Cond.instanceMethod yX0_snapped, Cond.selects RX0 yX0_snapped yX0_snapped, Cond.code yX0_snapped cX0_snapped 10 (some .long), Cond.methodLink RX0 73 yX0_wholeSteps, Cond.instanceMethod yX0_wholeSteps, Cond.selects RX0 yX0_wholeSteps yX0_wholeSteps, Cond.code yX0_wholeSteps cX0_wholeSteps 10 (some .long), Cond.methodLink RX0 58 yX1_valueOfSize, Cond.methodLink RX0 61 yX1_ofSize, Cond.methodLink RX0 64 yX1_withSignOf, Cond.static yX1_withSignOf, Cond.code yX1_withSignOf cX1_withSignOf 4 (some .long), Cond.methodLink RX0 67 yX5_whole, Cond.static yX5_whole, Cond.code yX5_whole cX5_whole 8 (some .long), Cond.constantLong RX5 11 (9223372036854775807), Cond.constantLong RX5 13 (4841369599423283200), Cond.constantLong RX5 19 (2), Cond.methodLink RX5 15 yX1_valueOfSize, Cond.methodLink RX5 21 yX5_growsInSize, Cond.static yX5_growsInSize]
def wsL_law_r17 : List Cond := [Cond.code yX5_growsInSize cX5_growsInSize 5 (some .boolean), Cond.constantDouble RX5 33 (4602678819172646912), Cond.methodLink RX5 25 yX1_ofSize, Cond.methodLink RX5 29 yX1_withSignOf, Cond.methodLink RL 42 yX7_snap, Cond.instanceMethod yX7_snap, Cond.selects RX7 yX7_snap yX7_snap, Cond.code yX7_snap cX7_snap 6 (some .int), Cond.methodLink RX7 203 yX7_whole, Cond.static yX7_whole, Cond.code yX7_whole cX7_whole 15 (some .long), Cond.constantLong RX7 83 (-9223372036854775808), Cond.constantLong RX7 85 (4602678819172646912), Cond.constantLong RX7 87 (2), Cond.methodLink RX7 89 yX7_isOdd, Cond.static yX7_isOdd, Cond.code yX7_isOdd cX7_isOdd 3 (some .boolean), Cond.methodLink RX7 207 yX7_whole4, Cond.static yX7_whole4, Cond.code yX7_whole4 cX7_whole4 9 (some .int), Cond.constant RX7 98 (-2147483648), Cond.constant RX7 116 (1056964608), Cond.methodLink RL 43 yX6_lean, Cond.instanceMethod yX6_lean]
def wsL_law_r18 : List Cond := [Cond.selects RX6 yX6_lean yX6_lean, Cond.code yX6_lean cX6_lean 3 (some .int), Cond.methodLink RX6 92 yX1_withSignOf, Cond.methodLink RL 46 yX7_lean, Cond.instanceMethod yX7_lean, Cond.selects RX7 yX7_lean yX7_lean, Cond.code yX7_lean cX7_lean 3 (some .int), Cond.methodLink RL 47 yX6_pull, Cond.instanceMethod yX6_pull, Cond.selects RX6 yX6_pull yX6_pull, Cond.code yX6_pull cX6_pull 4 (some .int), Cond.methodLink RX6 95 yX6_isEnd, Cond.static yX6_isEnd, Cond.code yX6_isEnd cX6_isEnd 1 (some .boolean), Cond.methodLink RX6 98 yX1_outer, Cond.static yX1_outer, Cond.code yX1_outer cX1_outer 5 (some .long), Cond.methodLink RX1 25 yX1_greater, Cond.methodLink RX1 28 yX1_lesser, Cond.methodLink RL 51 yX7_pull, Cond.instanceMethod yX7_pull, Cond.selects RX7 yX7_pull yX7_pull, Cond.code yX7_pull cX7_pull 4 (some .int), Cond.methodLink RL 52 yX6_swing]
def wsL_law_r19 : List Cond := [Cond.instanceMethod yX6_swing, Cond.selects RX6 yX6_swing yX6_swing, Cond.code yX6_swing cX6_swing 6 (some .int), Cond.methodLink RX6 105 yX1_opposite, Cond.static yX1_opposite, Cond.code yX1_opposite cX1_opposite 2 (some .long), Cond.methodLink RL 56 yX7_swing, Cond.instanceMethod yX7_swing, Cond.selects RX7 yX7_swing yX7_swing, Cond.code yX7_swing cX7_swing 4 (some .int), Cond.methodLink RL 57 yX6_guide, Cond.instanceMethod yX6_guide, Cond.selects RX6 yX6_guide yX6_guide, Cond.code yX6_guide cX6_guide 4 (some .int), Cond.methodLink RL 60 yX7_guide, Cond.instanceMethod yX7_guide, Cond.selects RX7 yX7_guide yX7_guide, Cond.code yX7_guide cX7_guide 4 (some .int), Cond.methodLink RL 61 yX6_stick, Cond.instanceMethod yX6_stick, Cond.selects RX6 yX6_stick yX6_stick, Cond.code yX6_stick cX6_stick 5 (some .int), Cond.methodLink RX6 113 yX6_nearestGuide, Cond.instanceMethod yX6_nearestGuide]
def wsL_law_r20 : List Cond := [Cond.selects RX6 yX6_nearestGuide yX6_nearestGuide, Cond.code yX6_nearestGuide cX6_nearestGuide 9 (some .int), Cond.methodLink RX6 117 yX0_apart, Cond.instanceMethod yX0_apart, Cond.selects RX0 yX0_apart yX0_apart, Cond.code yX0_apart cX0_apart 11 (some .double), Cond.methodLink RL 64 yX7_stick, Cond.instanceMethod yX7_stick, Cond.selects RX7 yX7_stick yX7_stick, Cond.code yX7_stick cX7_stick 10 (some .int), Cond.methodLink RL 65 yX6_undo, Cond.instanceMethod yX6_undo, Cond.selects RX6 yX6_undo yX6_undo, Cond.code yX6_undo cX6_undo 3 (some .int), Cond.methodLink RX6 125 yX4_takeLatest, Cond.instanceMethod yX4_takeLatest, Cond.selects RX4 yX4_takeLatest yX4_takeLatest, Cond.code yX4_takeLatest cX4_takeLatest 1 (some .int), Cond.methodLink RL 69 yX7_undo, Cond.instanceMethod yX7_undo, Cond.selects RX7 yX7_undo yX7_undo, Cond.code yX7_undo cX7_undo 2 (some .int), Cond.methodLink RL 70 yX6_x, Cond.instanceMethod yX6_x]
def wsL_law_r21 : List Cond := [Cond.selects RX6 yX6_x yX6_x, Cond.code yX6_x cX6_x 2 (some .long), Cond.methodLink RL 74 yX7_x, Cond.instanceMethod yX7_x, Cond.selects RX7 yX7_x yX7_x, Cond.code yX7_x cX7_x 2 (some .long), Cond.methodLink RL 75 yX6_y, Cond.instanceMethod yX6_y, Cond.selects RX6 yX6_y yX6_y, Cond.code yX6_y cX6_y 2 (some .int), Cond.methodLink RX6 136 yX3_narrowed, Cond.static yX3_narrowed, Cond.code yX3_narrowed cX3_narrowed 5 (some .int), Cond.constant RX3 26 (-2147483648), Cond.constantLong RX3 27 (9223372036854775807), Cond.constantLong RX3 29 (4039728865751334912), Cond.constantDouble RX3 35 (5278218763278221312), Cond.methodLink RX3 31 yX1_valueOfSize, Cond.methodLink RL 79 yX7_y, Cond.instanceMethod yX7_y, Cond.selects RX7 yX7_y yX7_y, Cond.code yX7_y cX7_y 2 (some .int), Cond.methodLink RL 80 yX6_side, Cond.instanceMethod yX6_side]
def wsL_law_r22 : List Cond := [Cond.selects RX6 yX6_side yX6_side, Cond.code yX6_side cX6_side 2 (some .long), Cond.methodLink RX6 139 yX1_unit, Cond.static yX1_unit, Cond.code yX1_unit cX1_unit 2 (some .long), Cond.constantLong RX1 15 (4607182418800017408), Cond.methodLink RX1 17 yX1_withSignOf, Cond.methodLink RL 83 yX7_side, Cond.instanceMethod yX7_side, Cond.selects RX7 yX7_side yX7_side, Cond.code yX7_side cX7_side 2 (some .long), Cond.methodLink RL 84 yX6_lift, Cond.instanceMethod yX6_lift, Cond.selects RX6 yX6_lift yX6_lift, Cond.code yX6_lift cX6_lift 2 (some .int), Cond.methodLink RL 87 yX7_lift, Cond.instanceMethod yX7_lift, Cond.selects RX7 yX7_lift yX7_lift, Cond.code yX7_lift cX7_lift 2 (some .int), Cond.methodLink RL 88 yX6_far, Cond.instanceMethod yX6_far, Cond.selects RX6 yX6_far yX6_far, Cond.code yX6_far cX6_far 3 (some .long), Cond.methodLink RX6 142 yX6_distance]
def wsL_law_r23 : List Cond := [Cond.instanceMethod yX6_distance, Cond.selects RX6 yX6_distance yX6_distance, Cond.code yX6_distance cX6_distance 7 (some .double), Cond.methodLink RX6 146 yX1_ofSize, Cond.methodLink RL 92 yX7_far, Cond.instanceMethod yX7_far, Cond.selects RX7 yX7_far yX7_far, Cond.code yX7_far cX7_far 8 (some .long), Cond.methodLink RL 93 yX6_cell, Cond.instanceMethod yX6_cell, Cond.selects RX6 yX6_cell yX6_cell, Cond.code yX6_cell cX6_cell 2 (some .int), Cond.methodLink RX6 150 yX6_cellAt, Cond.instanceMethod yX6_cellAt, Cond.selects RX6 yX6_cellAt yX6_cellAt, Cond.code yX6_cellAt cX6_cellAt 3 (some .int), Cond.methodLink RX6 189 yX0_wholeSteps, Cond.methodLink RL 96 yX7_cell, Cond.instanceMethod yX7_cell, Cond.selects RX7 yX7_cell yX7_cell, Cond.code yX7_cell cX7_cell 2 (some .int), Cond.methodLink RX7 210 yX7_whole32, Cond.static yX7_whole32, Cond.code yX7_whole32 cX7_whole32 2 (some .int)]
def wsL_law_r24 : List Cond := [Cond.constantDouble RX7 93 (4746794007244308480), Cond.constantDouble RX7 96 (13970166044103278592), Cond.methodLink RL 97 yX6_mark, Cond.instanceMethod yX6_mark, Cond.selects RX6 yX6_mark yX6_mark, Cond.code yX6_mark cX6_mark 2 (some .long), Cond.methodLink RX6 153 yX6_markAt, Cond.instanceMethod yX6_markAt, Cond.selects RX6 yX6_markAt yX6_markAt, Cond.code yX6_markAt cX6_markAt 3 (some .long), Cond.methodLink RL 100 yX7_mark, Cond.instanceMethod yX7_mark, Cond.selects RX7 yX7_mark yX7_mark, Cond.code yX7_mark cX7_mark 2 (some .long), Cond.methodLink RX7 214 yX7_whole64, Cond.static yX7_whole64, Cond.code yX7_whole64 cX7_whole64 1 (some .long), Cond.constantFloat RX7 117 (1593835520), Cond.constantFloat RX7 118 (3741319168), Cond.methodLink RL 101 yX6_gap, Cond.instanceMethod yX6_gap, Cond.selects RX6 yX6_gap yX6_gap, Cond.code yX6_gap cX6_gap 3 (some .int), Cond.methodLink RX6 156 Lib.Math.abs.name]
def wsL_law_r25 : List Cond := [Cond.static Lib.Math.abs.name, Cond.initialized "java/lang/Math", Cond.code Lib.Math.abs.name Lib.Math.abs.code 1 (some .int), Cond.methodLink RL 104 yX7_gap, Cond.instanceMethod yX7_gap, Cond.selects RX7 yX7_gap yX7_gap, Cond.code yX7_gap cX7_gap 4 (some .int), Cond.methodLink RX7 218 yX7_cell, Cond.methodLink RL 105 yX6_rise, Cond.instanceMethod yX6_rise, Cond.selects RX6 yX6_rise yX6_rise, Cond.code yX6_rise cX6_rise 3 (some .long), Cond.methodLink RX6 161 Lib.MathLoose.abs_long.x, Cond.static Lib.MathLoose.abs_long.x, Cond.code Lib.MathLoose.abs_long.x Lib.MathLoose.abs_long.code 2 (some .long), Cond.methodLink RL 108 yX7_rise, Cond.instanceMethod yX7_rise, Cond.selects RX7 yX7_rise yX7_rise, Cond.code yX7_rise cX7_rise 5 (some .long), Cond.methodLink RX7 221 yX7_mark, Cond.methodLink RL 109 yX6_edge, Cond.instanceMethod yX6_edge, Cond.selects RX6 yX6_edge yX6_edge, Cond.code yX6_edge cX6_edge 2 (some .long)]
def wsL_law_r26 : List Cond := [Cond.methodLink RX6 163 yX0_outermost, Cond.instanceMethod yX0_outermost, Cond.selects RX0 yX0_outermost yX0_outermost, Cond.code yX0_outermost cX0_outermost 5 (some .long), Cond.methodLink RX0 76 yX1_outer, Cond.methodLink RL 112 yX7_edge, Cond.instanceMethod yX7_edge, Cond.selects RX7 yX7_edge yX7_edge, Cond.code yX7_edge cX7_edge 5 (some .long), Cond.methodLink RL 113 yX6_rim, Cond.instanceMethod yX6_rim, Cond.selects RX6 yX6_rim yX6_rim, Cond.code yX6_rim cX6_rim 2 (some .int), Cond.methodLink RL 116 yX7_rim, Cond.instanceMethod yX7_rim, Cond.selects RX7 yX7_rim yX7_rim, Cond.code yX7_rim cX7_rim 4 (some .int), Cond.methodLink RL 117 yX6_neighbour, Cond.instanceMethod yX6_neighbour, Cond.selects RX6 yX6_neighbour yX6_neighbour, Cond.code yX6_neighbour cX6_neighbour 8 (some .int), Cond.methodLink RL 120 yX7_neighbour, Cond.instanceMethod yX7_neighbour, Cond.selects RX7 yX7_neighbour yX7_neighbour]
def wsL_law_r27 : List Cond := [Cond.code yX7_neighbour cX7_neighbour 4 (some .int), Cond.methodLink RX7 225 yX7_far, Cond.methodLink RL 121 yX6_column, Cond.instanceMethod yX6_column, Cond.selects RX6 yX6_column yX6_column, Cond.code yX6_column cX6_column 2 (some .int), Cond.methodLink RL 124 yX7_column, Cond.instanceMethod yX7_column, Cond.selects RX7 yX7_column yX7_column, Cond.code yX7_column cX7_column 5 (some .int), Cond.methodLink RL 125 yX6_row, Cond.instanceMethod yX6_row, Cond.selects RX6 yX6_row yX6_row, Cond.code yX6_row cX6_row 2 (some .long), Cond.methodLink RL 128 yX7_row, Cond.instanceMethod yX7_row, Cond.selects RX7 yX7_row yX7_row, Cond.code yX7_row cX7_row 7 (some .long), Cond.methodLink RL 129 yX6_count, Cond.instanceMethod yX6_count, Cond.selects RX6 yX6_count yX6_count, Cond.code yX6_count cX6_count 2 (some .int), Cond.methodLink RL 132 yX7_count, Cond.instanceMethod yX7_count]
def wsL_law_r28 : List Cond := [Cond.selects RX7 yX7_count yX7_count, Cond.code yX7_count cX7_count 2 (some .int)]
def wsL_law : List Cond := (wsL_law_r1 ++ (wsL_law_r2 ++ (wsL_law_r3 ++ (wsL_law_r4 ++ (wsL_law_r5 ++ (wsL_law_r6 ++ (wsL_law_r7 ++ (wsL_law_r8 ++ (wsL_law_r9 ++ (wsL_law_r10 ++ (wsL_law_r11 ++ (wsL_law_r12 ++ (wsL_law_r13 ++ (wsL_law_r14 ++ (wsL_law_r15 ++ (wsL_law_r16 ++ (wsL_law_r17 ++ (wsL_law_r18 ++ (wsL_law_r19 ++ (wsL_law_r20 ++ (wsL_law_r21 ++ (wsL_law_r22 ++ (wsL_law_r23 ++ (wsL_law_r24 ++ (wsL_law_r25 ++ (wsL_law_r26 ++ (wsL_law_r27 ++ wsL_law_r28))))))))))))))))))))))))))) ++ wsX60 ++ wsX70 ++ wsX00 ++ wsX40 ++ ([] : List Cond)
end
section
set_option maxRecDepth 20000 in
theorem wsL_law_r1_in : ∀ w ∈ wsL_law_r1, w ∈ lw_tbl := fun w h => (goodIn_p wsL_law_r1 [31, 34] (by decide +kernel) (by decide +kernel) w h).1
set_option maxRecDepth 20000 in
theorem wsL_law_r2_in : ∀ w ∈ wsL_law_r2, w ∈ lw_tbl := fun w h => (goodIn_p wsL_law_r2 [39, 67, 436] (by decide +kernel) (by decide +kernel) w h).1
set_option maxRecDepth 20000 in
theorem wsL_law_r3_in : ∀ w ∈ wsL_law_r3, w ∈ lw_tbl := fun w h => (goodIn_p wsL_law_r3 [116] (by decide +kernel) (by decide +kernel) w h).1
set_option maxRecDepth 20000 in
theorem wsL_law_r4_in : ∀ w ∈ wsL_law_r4, w ∈ lw_tbl := fun w h => (goodIn_p wsL_law_r4 [119, 128, 131] (by decide +kernel) (by decide +kernel) w h).1
set_option maxRecDepth 20000 in
theorem wsL_law_r5_in : ∀ w ∈ wsL_law_r5, w ∈ lw_tbl := fun w h => (goodIn_p wsL_law_r5 [136, 139, 152, 155, 160] (by decide +kernel) (by decide +kernel) w h).1
set_option maxRecDepth 20000 in
theorem wsL_law_r6_in : ∀ w ∈ wsL_law_r6, w ∈ lw_tbl := fun w h => (goodIn_p wsL_law_r6 [164, 167, 171, 175, 179, 182] (by decide +kernel) (by decide +kernel) w h).1
set_option maxRecDepth 20000 in
theorem wsL_law_r7_in : ∀ w ∈ wsL_law_r7, w ∈ lw_tbl := fun w h => (goodIn_p wsL_law_r7 [185, 188, 192, 196, 200, 500] (by decide +kernel) (by decide +kernel) w h).1
set_option maxRecDepth 20000 in
theorem wsL_law_r8_in : ∀ w ∈ wsL_law_r8, w ∈ lw_tbl := fun w h => (goodIn_p wsL_law_r8 [503, 507, 510, 513, 517, 520] (by decide +kernel) (by decide +kernel) w h).1
set_option maxRecDepth 20000 in
theorem wsL_law_r9_in : ∀ w ∈ wsL_law_r9, w ∈ lw_tbl := fun w h => (goodIn_p wsL_law_r9 [524, 527, 531, 535, 538, 541, 545] (by decide +kernel) (by decide +kernel) w h).1
set_option maxRecDepth 20000 in
theorem wsL_law_r10_in : ∀ w ∈ wsL_law_r10, w ∈ lw_tbl := fun w h => (goodIn_p wsL_law_r10 [549, 552, 555, 558, 562, 566] (by decide +kernel) (by decide +kernel) w h).1
set_option maxRecDepth 20000 in
theorem wsL_law_r11_in : ∀ w ∈ wsL_law_r11, w ∈ lw_tbl := fun w h => (goodIn_p wsL_law_r11 [204, 208, 211, 214, 221, 226] (by decide +kernel) (by decide +kernel) w h).1
set_option maxRecDepth 20000 in
theorem wsL_law_r12_in : ∀ w ∈ wsL_law_r12, w ∈ lw_tbl := fun w h => (goodIn_p wsL_law_r12 [570, 573, 230, 577, 580, 234] (by decide +kernel) (by decide +kernel) w h).1
set_option maxRecDepth 20000 in
theorem wsL_law_r13_in : ∀ w ∈ wsL_law_r13, w ∈ lw_tbl := fun w h => (goodIn_p wsL_law_r13 [237, 584, 241, 245, 250, 588] (by decide +kernel) (by decide +kernel) w h).1
set_option maxRecDepth 20000 in
theorem wsL_law_r14_in : ∀ w ∈ wsL_law_r14, w ∈ lw_tbl := fun w h => (goodIn_p wsL_law_r14 [591, 597, 600, 603, 610] (by decide +kernel) (by decide +kernel) w h).1
set_option maxRecDepth 20000 in
theorem wsL_law_r15_in : ∀ w ∈ wsL_law_r15, w ∈ lw_tbl := fun w h => (goodIn_p wsL_law_r15 [616, 619, 622, 256] (by decide +kernel) (by decide +kernel) w h).1
set_option maxRecDepth 20000 in
theorem wsL_law_r16_in : ∀ w ∈ wsL_law_r16, w ∈ lw_tbl := fun w h => (goodIn_p wsL_law_r16 [259, 263, 267, 272, 275] (by decide +kernel) (by decide +kernel) w h).1
set_option maxRecDepth 20000 in
theorem wsL_law_r17_in : ∀ w ∈ wsL_law_r17, w ∈ lw_tbl := fun w h => (goodIn_p wsL_law_r17 [282, 630, 633, 639, 642] (by decide +kernel) (by decide +kernel) w h).1
set_option maxRecDepth 20000 in
theorem wsL_law_r18_in : ∀ w ∈ wsL_law_r18, w ∈ lw_tbl := fun w h => (goodIn_p wsL_law_r18 [289, 648, 294, 297, 300, 652] (by decide +kernel) (by decide +kernel) w h).1
set_option maxRecDepth 20000 in
theorem wsL_law_r19_in : ∀ w ∈ wsL_law_r19, w ∈ lw_tbl := fun w h => (goodIn_p wsL_law_r19 [306, 309, 656, 313, 660, 317] (by decide +kernel) (by decide +kernel) w h).1
set_option maxRecDepth 20000 in
theorem wsL_law_r20_in : ∀ w ∈ wsL_law_r20, w ∈ lw_tbl := fun w h => (goodIn_p wsL_law_r20 [321, 325, 664, 329, 333, 668] (by decide +kernel) (by decide +kernel) w h).1
set_option maxRecDepth 20000 in
theorem wsL_law_r21_in : ∀ w ∈ wsL_law_r21, w ∈ lw_tbl := fun w h => (goodIn_p wsL_law_r21 [337, 672, 341, 344, 676] (by decide +kernel) (by decide +kernel) w h).1
set_option maxRecDepth 20000 in
theorem wsL_law_r22_in : ∀ w ∈ wsL_law_r22, w ∈ lw_tbl := fun w h => (goodIn_p wsL_law_r22 [353, 356, 680, 362, 684, 366] (by decide +kernel) (by decide +kernel) w h).1
set_option maxRecDepth 20000 in
theorem wsL_law_r23_in : ∀ w ∈ wsL_law_r23, w ∈ lw_tbl := fun w h => (goodIn_p wsL_law_r23 [370, 688, 375, 379, 692, 695] (by decide +kernel) (by decide +kernel) w h).1
set_option maxRecDepth 20000 in
theorem wsL_law_r24_in : ∀ w ∈ wsL_law_r24, w ∈ lw_tbl := fun w h => (goodIn_p wsL_law_r24 [384, 388, 701, 704, 392] (by decide +kernel) (by decide +kernel) w h).1
set_option maxRecDepth 20000 in
theorem wsL_law_r25_in : ∀ w ∈ wsL_law_r25, w ∈ lw_tbl := fun w h => (goodIn_p wsL_law_r25 [395, 710, 399, 402, 715, 406] (by decide +kernel) (by decide +kernel) w h).1
set_option maxRecDepth 20000 in
theorem wsL_law_r26_in : ∀ w ∈ wsL_law_r26, w ∈ lw_tbl := fun w h => (goodIn_p wsL_law_r26 [410, 720, 415, 724, 419] (by decide +kernel) (by decide +kernel) w h).1
set_option maxRecDepth 20000 in
theorem wsL_law_r27_in : ∀ w ∈ wsL_law_r27, w ∈ lw_tbl := fun w h => (goodIn_p wsL_law_r27 [728, 423, 733, 427, 737, 431] (by decide +kernel) (by decide +kernel) w h).1
set_option maxRecDepth 20000 in
theorem wsL_law_r28_in : ∀ w ∈ wsL_law_r28, w ∈ lw_tbl := fun w h => (goodIn_p wsL_law_r28 [741] (by decide +kernel) (by decide +kernel) w h).1
set_option maxRecDepth 20000 in
theorem wsX60_inT : ∀ w ∈ wsX60, w ∈ lw_tbl := by decide +kernel
set_option maxRecDepth 20000 in
theorem wsX70_inT : ∀ w ∈ wsX70, w ∈ lw_tbl := by decide +kernel
set_option maxRecDepth 20000 in
theorem wsX00_inT : ∀ w ∈ wsX00, w ∈ lw_tbl := by decide +kernel
set_option maxRecDepth 20000 in
theorem wsX40_inT : ∀ w ∈ wsX40, w ∈ lw_tbl := by decide +kernel
end
section
theorem wsL_law_in : ∀ w ∈ wsL_law, w ∈ lw_tbl := by
  intro w h
  unfold wsL_law at h
  replace h := (List.mem_append.mp h).resolve_right (fun q => absurd q List.not_mem_nil)
  refine (List.mem_append.mp h).elim (fun h => ?_) (fun h => wsX40_inT w h)
  refine (List.mem_append.mp h).elim (fun h => ?_) (fun h => wsX00_inT w h)
  refine (List.mem_append.mp h).elim (fun h => ?_) (fun h => wsX70_inT w h)
  refine (List.mem_append.mp h).elim (fun h => ?_) (fun h => wsX60_inT w h)
  refine (List.mem_append.mp h).elim (fun h => wsL_law_r1_in w h) (fun h => ?_)
  refine (List.mem_append.mp h).elim (fun h => wsL_law_r2_in w h) (fun h => ?_)
  refine (List.mem_append.mp h).elim (fun h => wsL_law_r3_in w h) (fun h => ?_)
  refine (List.mem_append.mp h).elim (fun h => wsL_law_r4_in w h) (fun h => ?_)
  refine (List.mem_append.mp h).elim (fun h => wsL_law_r5_in w h) (fun h => ?_)
  refine (List.mem_append.mp h).elim (fun h => wsL_law_r6_in w h) (fun h => ?_)
  refine (List.mem_append.mp h).elim (fun h => wsL_law_r7_in w h) (fun h => ?_)
  refine (List.mem_append.mp h).elim (fun h => wsL_law_r8_in w h) (fun h => ?_)
  refine (List.mem_append.mp h).elim (fun h => wsL_law_r9_in w h) (fun h => ?_)
  refine (List.mem_append.mp h).elim (fun h => wsL_law_r10_in w h) (fun h => ?_)
  refine (List.mem_append.mp h).elim (fun h => wsL_law_r11_in w h) (fun h => ?_)
  refine (List.mem_append.mp h).elim (fun h => wsL_law_r12_in w h) (fun h => ?_)
  refine (List.mem_append.mp h).elim (fun h => wsL_law_r13_in w h) (fun h => ?_)
  refine (List.mem_append.mp h).elim (fun h => wsL_law_r14_in w h) (fun h => ?_)
  refine (List.mem_append.mp h).elim (fun h => wsL_law_r15_in w h) (fun h => ?_)
  refine (List.mem_append.mp h).elim (fun h => wsL_law_r16_in w h) (fun h => ?_)
  refine (List.mem_append.mp h).elim (fun h => wsL_law_r17_in w h) (fun h => ?_)
  refine (List.mem_append.mp h).elim (fun h => wsL_law_r18_in w h) (fun h => ?_)
  refine (List.mem_append.mp h).elim (fun h => wsL_law_r19_in w h) (fun h => ?_)
  refine (List.mem_append.mp h).elim (fun h => wsL_law_r20_in w h) (fun h => ?_)
  refine (List.mem_append.mp h).elim (fun h => wsL_law_r21_in w h) (fun h => ?_)
  refine (List.mem_append.mp h).elim (fun h => wsL_law_r22_in w h) (fun h => ?_)
  refine (List.mem_append.mp h).elim (fun h => wsL_law_r23_in w h) (fun h => ?_)
  refine (List.mem_append.mp h).elim (fun h => wsL_law_r24_in w h) (fun h => ?_)
  refine (List.mem_append.mp h).elim (fun h => wsL_law_r25_in w h) (fun h => ?_)
  refine (List.mem_append.mp h).elim (fun h => wsL_law_r26_in w h) (fun h => ?_)
  refine (List.mem_append.mp h).elim (fun h => wsL_law_r27_in w h) (fun h => ?_)
  exact wsL_law_r28_in w h
theorem inlX0 : ∀ w ∈ wsX00, w ∈ wsL_law := fun _ h => List.mem_append_left _ (List.mem_append_left _ (List.mem_append_right _ h))
theorem inX0 : ∀ w ∈ wsX00, w ∈ lw_tbl := fun w h => wsL_law_in w (inlX0 w h)
theorem inX1 : ∀ w ∈ wsX10, w ∈ lw_tbl := by decide +kernel
theorem inX2 : ∀ w ∈ wsX20, w ∈ lw_tbl := by decide +kernel
theorem inX3 : ∀ w ∈ wsX30, w ∈ lw_tbl := by decide +kernel
theorem inlX4 : ∀ w ∈ wsX40, w ∈ wsL_law := fun _ h => List.mem_append_left _ (List.mem_append_right _ h)
theorem inX4 : ∀ w ∈ wsX40, w ∈ lw_tbl := fun w h => wsL_law_in w (inlX4 w h)
theorem inX5 : ∀ w ∈ wsX50, w ∈ lw_tbl := by decide +kernel
theorem inlX6 : ∀ w ∈ wsX60, w ∈ wsL_law := fun _ h => List.mem_append_left _ (List.mem_append_left _ (List.mem_append_left _ (List.mem_append_left _ (List.mem_append_right _ h))))
theorem inX6 : ∀ w ∈ wsX60, w ∈ lw_tbl := fun w h => wsL_law_in w (inlX6 w h)
theorem inlX7 : ∀ w ∈ wsX70, w ∈ wsL_law := fun _ h => List.mem_append_left _ (List.mem_append_left _ (List.mem_append_left _ (List.mem_append_right _ h)))
theorem inX7 : ∀ w ∈ wsX70, w ∈ lw_tbl := fun w h => wsL_law_in w (inlX7 w h)
theorem inJxe99ae : ∀ w ∈ wsJxe99ae0, w ∈ lw_tbl := by decide +kernel
theorem inJxf58ca : ∀ w ∈ wsJxf58ca0, w ∈ lw_tbl := by decide +kernel
theorem inJ9 : ∀ w ∈ wsJ90, w ∈ lw_tbl := by decide +kernel
theorem dX0_init_0 : decode cX0_init 0 = .ok (.aload_n 0, 1) := by decide +kernel
theorem dX0_init_1 : decode cX0_init 1 = .ok (.invokespecial 3, 3) := by decide +kernel
theorem dX0_init_4 : decode cX0_init 4 = .ok (.aload_n 0, 1) := by decide +kernel
theorem dX0_init_5 : decode cX0_init 5 = .ok (.bipush 8, 2) := by decide +kernel
theorem dX0_init_7 : decode cX0_init 7 = .ok (.newarray .long, 2) := by decide +kernel
theorem dX0_init_9 : decode cX0_init 9 = .ok (.putfield 9, 3) := by decide +kernel
theorem dX0_init_12 : decode cX0_init 12 = .ok (.aload_n 0, 1) := by decide +kernel
theorem dX0_init_13 : decode cX0_init 13 = .ok (.ldc2_w 17, 3) := by decide +kernel
theorem dX0_init_16 : decode cX0_init 16 = .ok (.putfield 19, 3) := by decide +kernel
theorem dX0_init_19 : decode cX0_init 19 = .ok (.aload_n 0, 1) := by decide +kernel
theorem dX0_init_20 : decode cX0_init 20 = .ok (.ldc2_w 23, 3) := by decide +kernel
theorem dX0_init_23 : decode cX0_init 23 = .ok (.putfield 25, 3) := by decide +kernel
theorem dX0_init_26 : decode cX0_init 26 = .ok (.aload_n 0, 1) := by decide +kernel
theorem dX0_init_27 : decode cX0_init 27 = .ok (.ldc2_w 28, 3) := by decide +kernel
theorem dX0_init_30 : decode cX0_init 30 = .ok (.putfield 30, 3) := by decide +kernel
theorem dX0_init_33 : decode cX0_init 33 = .ok (.aload_n 0, 1) := by decide +kernel
theorem dX0_init_34 : decode cX0_init 34 = .ok (.iload_n 1, 1) := by decide +kernel
theorem dX0_init_35 : decode cX0_init 35 = .ok (.putfield 33, 3) := by decide +kernel
theorem dX0_init_38 : decode cX0_init 38 = .ok (.return_, 1) := by decide +kernel
set_option maxRecDepth 20000 in
theorem ggX0_walled_X1_lesser : GoodIn wsX0_walled wsX1_lesser := goodIn_r _ [6, 7, 8, 5, 9, 10] (by decide +kernel) (by decide +kernel)
set_option maxRecDepth 20000 in
theorem gX0_walled_X1_lesser : GoodIn wsX0_walled (va_wsS RX0 37 yX1_lesser wsX1_lesser) := goodIn_app (goodIn_of _ (by decide +kernel)) ggX0_walled_X1_lesser
set_option maxRecDepth 20000 in
theorem ggX0_walled_X1_greater : GoodIn wsX0_walled wsX1_greater := goodIn_r _ [13, 7, 8, 5, 9, 10] (by decide +kernel) (by decide +kernel)
set_option maxRecDepth 20000 in
theorem gX0_walled_X1_greater : GoodIn wsX0_walled (va_wsS RX0 41 yX1_greater wsX1_greater) := goodIn_app (goodIn_of _ (by decide +kernel)) ggX0_walled_X1_greater
theorem dX0_walled_0 : decode cX0_walled 0 = .ok (.lload_n 1, 1) := by decide +kernel
theorem dX0_walled_1 : decode cX0_walled 1 = .ok (.aload_n 0, 1) := by decide +kernel
theorem dX0_walled_2 : decode cX0_walled 2 = .ok (.getfield 25, 3) := by decide +kernel
theorem dX0_walled_5 : decode cX0_walled 5 = .ok (.invokestatic 37, 3) := by decide +kernel
theorem dX0_walled_8 : decode cX0_walled 8 = .ok (.aload_n 0, 1) := by decide +kernel
theorem dX0_walled_9 : decode cX0_walled 9 = .ok (.getfield 19, 3) := by decide +kernel
theorem dX0_walled_12 : decode cX0_walled 12 = .ok (.invokestatic 41, 3) := by decide +kernel
theorem dX0_walled_15 : decode cX0_walled 15 = .ok (.lreturn, 1) := by decide +kernel
set_option maxRecDepth 20000 in
theorem ggX0_wallAll_X0_walled : GoodIn wsX0_wallAll wsX0_walled := goodIn_r _ [8, 2, 1, 9, 10, 11, 12, 13, 14, 15, 16, 17, 18, 19, 20, 21, 22, 23, 24] (by decide +kernel) (by decide +kernel)
set_option maxRecDepth 20000 in
theorem gX0_wallAll_X0_walled : GoodIn wsX0_wallAll (wsV RX0 44 RX0 yX0_walled wsX0_walled) := goodIn_app (goodIn_of _ (by decide +kernel)) ggX0_wallAll_X0_walled
theorem dX0_wallAll_0 : decode cX0_wallAll 0 = .ok (.aload_n 0, 1) := by decide +kernel
theorem dX0_wallAll_1 : decode cX0_wallAll 1 = .ok (.lload_n 1, 1) := by decide +kernel
theorem dX0_wallAll_2 : decode cX0_wallAll 2 = .ok (.putfield 19, 3) := by decide +kernel
theorem dX0_wallAll_5 : decode cX0_wallAll 5 = .ok (.aload_n 0, 1) := by decide +kernel
theorem dX0_wallAll_6 : decode cX0_wallAll 6 = .ok (.lload_n 3, 1) := by decide +kernel
theorem dX0_wallAll_7 : decode cX0_wallAll 7 = .ok (.putfield 25, 3) := by decide +kernel
theorem dX0_wallAll_10 : decode cX0_wallAll 10 = .ok (.iconst 0, 1) := by decide +kernel
theorem dX0_wallAll_11 : decode cX0_wallAll 11 = .ok (.istore 5, 2) := by decide +kernel
theorem dX0_wallAll_13 : decode cX0_wallAll 13 = .ok (.iconst 0, 1) := by decide +kernel
theorem dX0_wallAll_14 : decode cX0_wallAll 14 = .ok (.istore 6, 2) := by decide +kernel
theorem dX0_wallAll_16 : decode cX0_wallAll 16 = .ok (.iload 6, 2) := by decide +kernel
theorem dX0_wallAll_18 : decode cX0_wallAll 18 = .ok (.bipush 8, 2) := by decide +kernel
theorem dX0_wallAll_20 : decode cX0_wallAll 20 = .ok (.if_icmp .ge 47, 3) := by decide +kernel
theorem dX0_wallAll_23 : decode cX0_wallAll 23 = .ok (.aload_n 0, 1) := by decide +kernel
theorem dX0_wallAll_24 : decode cX0_wallAll 24 = .ok (.aload_n 0, 1) := by decide +kernel
theorem dX0_wallAll_25 : decode cX0_wallAll 25 = .ok (.getfield 9, 3) := by decide +kernel
theorem dX0_wallAll_28 : decode cX0_wallAll 28 = .ok (.iload 6, 2) := by decide +kernel
theorem dX0_wallAll_30 : decode cX0_wallAll 30 = .ok (.laload, 1) := by decide +kernel
theorem dX0_wallAll_31 : decode cX0_wallAll 31 = .ok (.invokevirtual 44, 3) := by decide +kernel
theorem dX0_wallAll_34 : decode cX0_wallAll 34 = .ok (.lstore 7, 2) := by decide +kernel
theorem dX0_wallAll_36 : decode cX0_wallAll 36 = .ok (.lload 7, 2) := by decide +kernel
theorem dX0_wallAll_38 : decode cX0_wallAll 38 = .ok (.aload_n 0, 1) := by decide +kernel
theorem dX0_wallAll_39 : decode cX0_wallAll 39 = .ok (.getfield 9, 3) := by decide +kernel
theorem dX0_wallAll_42 : decode cX0_wallAll 42 = .ok (.iload 6, 2) := by decide +kernel
theorem dX0_wallAll_44 : decode cX0_wallAll 44 = .ok (.laload, 1) := by decide +kernel
theorem dX0_wallAll_45 : decode cX0_wallAll 45 = .ok (.lcmp, 1) := by decide +kernel
theorem dX0_wallAll_46 : decode cX0_wallAll 46 = .ok (.ifCond .eq 6, 3) := by decide +kernel
theorem dX0_wallAll_49 : decode cX0_wallAll 49 = .ok (.iinc 5 1, 3) := by decide +kernel
theorem dX0_wallAll_52 : decode cX0_wallAll 52 = .ok (.aload_n 0, 1) := by decide +kernel
theorem dX0_wallAll_53 : decode cX0_wallAll 53 = .ok (.getfield 9, 3) := by decide +kernel
theorem dX0_wallAll_56 : decode cX0_wallAll 56 = .ok (.iload 6, 2) := by decide +kernel
theorem dX0_wallAll_58 : decode cX0_wallAll 58 = .ok (.lload 7, 2) := by decide +kernel
theorem dX0_wallAll_60 : decode cX0_wallAll 60 = .ok (.lastore, 1) := by decide +kernel
theorem dX0_wallAll_61 : decode cX0_wallAll 61 = .ok (.iinc 6 1, 3) := by decide +kernel
theorem dX0_wallAll_64 : decode cX0_wallAll 64 = .ok (.goto (-48), 3) := by decide +kernel
theorem dX0_wallAll_67 : decode cX0_wallAll 67 = .ok (.iload 5, 2) := by decide +kernel
theorem dX0_wallAll_69 : decode cX0_wallAll 69 = .ok (.ireturn, 1) := by decide +kernel
set_option maxRecDepth 20000 in
theorem ggX0_sum_X1_value : GoodIn wsX0_sum wsX1_value := goodIn_r _ [6, 7, 8, 5, 9, 10, 11, 12, 13, 14, 15, 16, 17, 18, 19, 20, 21, 22, 23, 24, 25, 26, 27, 28, 29, 30, 31, 32, 33, 34, 35, 36, 37] (by decide +kernel) (by decide +kernel)
set_option maxRecDepth 20000 in
theorem gX0_sum_X1_value : GoodIn wsX0_sum (va_wsS RX0 48 yX1_value wsX1_value) := goodIn_app (goodIn_of _ (by decide +kernel)) ggX0_sum_X1_value
set_option maxRecDepth 20000 in
theorem ggX0_sum_X1_of : GoodIn wsX0_sum wsX1_of := goodIn_r _ [40, 41, 42, 43, 5, 44, 16, 45, 17, 18, 19, 20, 21, 46, 47, 48, 25, 26, 27, 28, 29, 30, 31, 32, 33, 34, 35, 36, 37, 49, 50, 51, 22, 23, 24] (by decide +kernel) (by decide +kernel)
set_option maxRecDepth 20000 in
theorem gX0_sum_X1_of : GoodIn wsX0_sum (va_wsS RX0 54 yX1_of wsX1_of) := goodIn_app (goodIn_of _ (by decide +kernel)) ggX0_sum_X1_of
theorem dX0_sum_0 : decode cX0_sum 0 = .ok (.lload_n 1, 1) := by decide +kernel
theorem dX0_sum_1 : decode cX0_sum 1 = .ok (.invokestatic 48, 3) := by decide +kernel
theorem dX0_sum_4 : decode cX0_sum 4 = .ok (.dstore 5, 2) := by decide +kernel
theorem dX0_sum_6 : decode cX0_sum 6 = .ok (.lload_n 3, 1) := by decide +kernel
theorem dX0_sum_7 : decode cX0_sum 7 = .ok (.invokestatic 48, 3) := by decide +kernel
theorem dX0_sum_10 : decode cX0_sum 10 = .ok (.dstore 7, 2) := by decide +kernel
theorem dX0_sum_12 : decode cX0_sum 12 = .ok (.aload_n 0, 1) := by decide +kernel
theorem dX0_sum_13 : decode cX0_sum 13 = .ok (.getfield 33, 3) := by decide +kernel
theorem dX0_sum_16 : decode cX0_sum 16 = .ok (.ifCond .eq 14, 3) := by decide +kernel
theorem dX0_sum_19 : decode cX0_sum 19 = .ok (.dload 5, 2) := by decide +kernel
theorem dX0_sum_21 : decode cX0_sum 21 = .ok (.d2f, 1) := by decide +kernel
theorem dX0_sum_22 : decode cX0_sum 22 = .ok (.dload 7, 2) := by decide +kernel
theorem dX0_sum_24 : decode cX0_sum 24 = .ok (.d2f, 1) := by decide +kernel
theorem dX0_sum_25 : decode cX0_sum 25 = .ok (.fadd, 1) := by decide +kernel
theorem dX0_sum_26 : decode cX0_sum 26 = .ok (.f2d, 1) := by decide +kernel
theorem dX0_sum_27 : decode cX0_sum 27 = .ok (.goto 8, 3) := by decide +kernel
theorem dX0_sum_30 : decode cX0_sum 30 = .ok (.dload 5, 2) := by decide +kernel
theorem dX0_sum_32 : decode cX0_sum 32 = .ok (.dload 7, 2) := by decide +kernel
theorem dX0_sum_34 : decode cX0_sum 34 = .ok (.dadd, 1) := by decide +kernel
theorem dX0_sum_35 : decode cX0_sum 35 = .ok (.dstore 9, 2) := by decide +kernel
theorem dX0_sum_37 : decode cX0_sum 37 = .ok (.dload 9, 2) := by decide +kernel
theorem dX0_sum_39 : decode cX0_sum 39 = .ok (.dconst 0, 1) := by decide +kernel
theorem dX0_sum_40 : decode cX0_sum 40 = .ok (.dcmp .l, 1) := by decide +kernel
theorem dX0_sum_41 : decode cX0_sum 41 = .ok (.ifCond .ne 13, 3) := by decide +kernel
theorem dX0_sum_44 : decode cX0_sum 44 = .ok (.lload_n 1, 1) := by decide +kernel
theorem dX0_sum_45 : decode cX0_sum 45 = .ok (.lload_n 3, 1) := by decide +kernel
theorem dX0_sum_46 : decode cX0_sum 46 = .ok (.land, 1) := by decide +kernel
theorem dX0_sum_47 : decode cX0_sum 47 = .ok (.ldc2_w 52, 3) := by decide +kernel
theorem dX0_sum_50 : decode cX0_sum 50 = .ok (.land, 1) := by decide +kernel
theorem dX0_sum_51 : decode cX0_sum 51 = .ok (.goto 8, 3) := by decide +kernel
theorem dX0_sum_54 : decode cX0_sum 54 = .ok (.dload 9, 2) := by decide +kernel
theorem dX0_sum_56 : decode cX0_sum 56 = .ok (.invokestatic 54, 3) := by decide +kernel
theorem dX0_sum_59 : decode cX0_sum 59 = .ok (.lreturn, 1) := by decide +kernel
set_option maxRecDepth 20000 in
theorem ggX0_apart_X1_value : GoodIn wsX0_apart wsX1_value := goodIn_r _ [5, 6, 7, 4, 8, 9, 10, 11, 12, 13, 14, 15, 16, 17, 18, 19, 20, 21, 22, 23, 24, 25, 26, 27, 28, 29, 30, 31, 32, 33, 34, 35, 36] (by decide +kernel) (by decide +kernel)
set_option maxRecDepth 20000 in
theorem gX0_apart_X1_value : GoodIn wsX0_apart (va_wsS RX0 48 yX1_value wsX1_value) := goodIn_app (goodIn_of _ (by decide +kernel)) ggX0_apart_X1_value
theorem dX0_apart_0 : decode cX0_apart 0 = .ok (.lload_n 1, 1) := by decide +kernel
theorem dX0_apart_1 : decode cX0_apart 1 = .ok (.invokestatic 48, 3) := by decide +kernel
theorem dX0_apart_4 : decode cX0_apart 4 = .ok (.dstore 5, 2) := by decide +kernel
theorem dX0_apart_6 : decode cX0_apart 6 = .ok (.lload_n 3, 1) := by decide +kernel
theorem dX0_apart_7 : decode cX0_apart 7 = .ok (.invokestatic 48, 3) := by decide +kernel
theorem dX0_apart_10 : decode cX0_apart 10 = .ok (.dstore 7, 2) := by decide +kernel
theorem dX0_apart_12 : decode cX0_apart 12 = .ok (.aload_n 0, 1) := by decide +kernel
theorem dX0_apart_13 : decode cX0_apart 13 = .ok (.getfield 33, 3) := by decide +kernel
theorem dX0_apart_16 : decode cX0_apart 16 = .ok (.ifCond .eq 14, 3) := by decide +kernel
theorem dX0_apart_19 : decode cX0_apart 19 = .ok (.dload 5, 2) := by decide +kernel
theorem dX0_apart_21 : decode cX0_apart 21 = .ok (.d2f, 1) := by decide +kernel
theorem dX0_apart_22 : decode cX0_apart 22 = .ok (.dload 7, 2) := by decide +kernel
theorem dX0_apart_24 : decode cX0_apart 24 = .ok (.d2f, 1) := by decide +kernel
theorem dX0_apart_25 : decode cX0_apart 25 = .ok (.fsub, 1) := by decide +kernel
theorem dX0_apart_26 : decode cX0_apart 26 = .ok (.f2d, 1) := by decide +kernel
theorem dX0_apart_27 : decode cX0_apart 27 = .ok (.goto 8, 3) := by decide +kernel
theorem dX0_apart_30 : decode cX0_apart 30 = .ok (.dload 5, 2) := by decide +kernel
theorem dX0_apart_32 : decode cX0_apart 32 = .ok (.dload 7, 2) := by decide +kernel
theorem dX0_apart_34 : decode cX0_apart 34 = .ok (.dsub, 1) := by decide +kernel
theorem dX0_apart_35 : decode cX0_apart 35 = .ok (.dstore 9, 2) := by decide +kernel
theorem dX0_apart_37 : decode cX0_apart 37 = .ok (.dload 9, 2) := by decide +kernel
theorem dX0_apart_39 : decode cX0_apart 39 = .ok (.dconst 0, 1) := by decide +kernel
theorem dX0_apart_40 : decode cX0_apart 40 = .ok (.dcmp .g, 1) := by decide +kernel
theorem dX0_apart_41 : decode cX0_apart 41 = .ok (.ifCond .ge 9, 3) := by decide +kernel
theorem dX0_apart_44 : decode cX0_apart 44 = .ok (.dload 9, 2) := by decide +kernel
theorem dX0_apart_46 : decode cX0_apart 46 = .ok (.dneg, 1) := by decide +kernel
theorem dX0_apart_47 : decode cX0_apart 47 = .ok (.goto 5, 3) := by decide +kernel
theorem dX0_apart_50 : decode cX0_apart 50 = .ok (.dload 9, 2) := by decide +kernel
theorem dX0_apart_52 : decode cX0_apart 52 = .ok (.dreturn, 1) := by decide +kernel
set_option maxRecDepth 20000 in
theorem ggX0_wholeSteps_X1_valueOfSize : GoodIn wsX0_wholeSteps wsX1_valueOfSize := goodIn_r _ [6, 7, 8, 9, 10, 11, 5, 12, 13, 14, 15, 16, 17, 18, 19, 20, 21, 22, 23, 24, 25, 26, 27, 28, 29, 30, 31, 32, 33, 34] (by decide +kernel) (by decide +kernel)
set_option maxRecDepth 20000 in
theorem gX0_wholeSteps_X1_valueOfSize : GoodIn wsX0_wholeSteps (va_wsS RX0 58 yX1_valueOfSize wsX1_valueOfSize) := goodIn_app (goodIn_of _ (by decide +kernel)) ggX0_wholeSteps_X1_valueOfSize
set_option maxRecDepth 20000 in
theorem ggX0_wholeSteps_X1_ofSize : GoodIn wsX0_wholeSteps wsX1_ofSize := goodIn_r _ [37, 13, 38, 14, 15, 16, 17, 18, 39, 40, 41, 22, 23, 24, 25, 26, 27, 28, 29, 30, 31, 32, 33, 34, 42, 43, 44, 19, 20, 21] (by decide +kernel) (by decide +kernel)
set_option maxRecDepth 20000 in
theorem gX0_wholeSteps_X1_ofSize : GoodIn wsX0_wholeSteps (va_wsS RX0 61 yX1_ofSize wsX1_ofSize) := goodIn_app (goodIn_of _ (by decide +kernel)) ggX0_wholeSteps_X1_ofSize
set_option maxRecDepth 20000 in
theorem ggX0_wholeSteps_X1_withSignOf : GoodIn wsX0_wholeSteps wsX1_withSignOf := goodIn_r _ [47, 7, 48] (by decide +kernel) (by decide +kernel)
set_option maxRecDepth 20000 in
theorem gX0_wholeSteps_X1_withSignOf : GoodIn wsX0_wholeSteps (va_wsS RX0 64 yX1_withSignOf wsX1_withSignOf) := goodIn_app (goodIn_of _ (by decide +kernel)) ggX0_wholeSteps_X1_withSignOf
set_option maxRecDepth 20000 in
theorem ggX0_wholeSteps_X5_whole : GoodIn wsX0_wholeSteps wsX5_whole := goodIn_r _ [52, 53, 54, 55, 56, 4, 5, 6, 7, 8, 9, 10, 11, 12, 13, 14, 15, 16, 17, 18, 19, 20, 21, 22, 23, 24, 25, 26, 27, 28, 29, 30, 31, 32, 33, 34, 57, 58, 51, 59, 60, 61, 36, 37, 38, 39, 40, 41, 42, 43, 44, 62, 46, 47, 48] (by decide +kernel) (by decide +kernel)
set_option maxRecDepth 20000 in
theorem gX0_wholeSteps_X5_whole : GoodIn wsX0_wholeSteps (va_wsS RX0 67 yX5_whole wsX5_whole) := goodIn_app (goodIn_of _ (by decide +kernel)) ggX0_wholeSteps_X5_whole
theorem dX0_wholeSteps_0 : decode cX0_wholeSteps 0 = .ok (.lload_n 1, 1) := by decide +kernel
theorem dX0_wholeSteps_1 : decode cX0_wholeSteps 1 = .ok (.invokestatic 58, 3) := by decide +kernel
theorem dX0_wholeSteps_4 : decode cX0_wholeSteps 4 = .ok (.dstore 4, 2) := by decide +kernel
theorem dX0_wholeSteps_6 : decode cX0_wholeSteps 6 = .ok (.aload_n 0, 1) := by decide +kernel
theorem dX0_wholeSteps_7 : decode cX0_wholeSteps 7 = .ok (.getfield 30, 3) := by decide +kernel
theorem dX0_wholeSteps_10 : decode cX0_wholeSteps 10 = .ok (.invokestatic 58, 3) := by decide +kernel
theorem dX0_wholeSteps_13 : decode cX0_wholeSteps 13 = .ok (.dstore 6, 2) := by decide +kernel
theorem dX0_wholeSteps_15 : decode cX0_wholeSteps 15 = .ok (.aload_n 0, 1) := by decide +kernel
theorem dX0_wholeSteps_16 : decode cX0_wholeSteps 16 = .ok (.getfield 33, 3) := by decide +kernel
theorem dX0_wholeSteps_19 : decode cX0_wholeSteps 19 = .ok (.ifCond .eq 14, 3) := by decide +kernel
theorem dX0_wholeSteps_22 : decode cX0_wholeSteps 22 = .ok (.dload 4, 2) := by decide +kernel
theorem dX0_wholeSteps_24 : decode cX0_wholeSteps 24 = .ok (.d2f, 1) := by decide +kernel
theorem dX0_wholeSteps_25 : decode cX0_wholeSteps 25 = .ok (.dload 6, 2) := by decide +kernel
theorem dX0_wholeSteps_27 : decode cX0_wholeSteps 27 = .ok (.d2f, 1) := by decide +kernel
theorem dX0_wholeSteps_28 : decode cX0_wholeSteps 28 = .ok (.fdiv, 1) := by decide +kernel
theorem dX0_wholeSteps_29 : decode cX0_wholeSteps 29 = .ok (.f2d, 1) := by decide +kernel
theorem dX0_wholeSteps_30 : decode cX0_wholeSteps 30 = .ok (.goto 8, 3) := by decide +kernel
theorem dX0_wholeSteps_33 : decode cX0_wholeSteps 33 = .ok (.dload 4, 2) := by decide +kernel
theorem dX0_wholeSteps_35 : decode cX0_wholeSteps 35 = .ok (.dload 6, 2) := by decide +kernel
theorem dX0_wholeSteps_37 : decode cX0_wholeSteps 37 = .ok (.ddiv, 1) := by decide +kernel
theorem dX0_wholeSteps_38 : decode cX0_wholeSteps 38 = .ok (.dstore 8, 2) := by decide +kernel
theorem dX0_wholeSteps_40 : decode cX0_wholeSteps 40 = .ok (.dload 8, 2) := by decide +kernel
theorem dX0_wholeSteps_42 : decode cX0_wholeSteps 42 = .ok (.invokestatic 61, 3) := by decide +kernel
theorem dX0_wholeSteps_45 : decode cX0_wholeSteps 45 = .ok (.lload_n 1, 1) := by decide +kernel
theorem dX0_wholeSteps_46 : decode cX0_wholeSteps 46 = .ok (.invokestatic 64, 3) := by decide +kernel
theorem dX0_wholeSteps_49 : decode cX0_wholeSteps 49 = .ok (.iload_n 3, 1) := by decide +kernel
theorem dX0_wholeSteps_50 : decode cX0_wholeSteps 50 = .ok (.invokestatic 67, 3) := by decide +kernel
theorem dX0_wholeSteps_53 : decode cX0_wholeSteps 53 = .ok (.lreturn, 1) := by decide +kernel
set_option maxRecDepth 20000 in
theorem ggX0_snapped_X0_wholeSteps : GoodIn wsX0_snapped wsX0_wholeSteps := goodIn_r _ [7, 1, 2, 8, 9, 10, 11, 12, 13, 14, 15, 16, 17, 18, 19, 20, 21, 22, 23, 24, 25, 26, 27, 28, 29, 30, 31, 32, 33, 34, 35, 36, 37, 38, 39, 40, 41, 42, 43, 44, 45, 46, 47, 48, 49, 50, 51, 52, 53, 54, 55, 56, 57, 58, 59, 60, 61, 62, 63, 64, 65, 66, 67, 68, 69, 70, 71, 72] (by decide +kernel) (by decide +kernel)
set_option maxRecDepth 20000 in
theorem gX0_snapped_X0_wholeSteps : GoodIn wsX0_snapped (wsV RX0 73 RX0 yX0_wholeSteps wsX0_wholeSteps) := goodIn_app (goodIn_of _ (by decide +kernel)) ggX0_snapped_X0_wholeSteps
set_option maxRecDepth 20000 in
theorem ggX0_snapped_X1_valueOfSize : GoodIn wsX0_snapped wsX1_valueOfSize := goodIn_r _ [11, 12, 13, 14, 15, 16, 10, 17, 18, 19, 20, 21, 22, 23, 24, 25, 26, 27, 28, 29, 30, 31, 32, 33, 34, 35, 36, 37, 38, 39] (by decide +kernel) (by decide +kernel)
set_option maxRecDepth 20000 in
theorem gX0_snapped_X1_valueOfSize : GoodIn wsX0_snapped (va_wsS RX0 58 yX1_valueOfSize wsX1_valueOfSize) := goodIn_app (goodIn_of _ (by decide +kernel)) ggX0_snapped_X1_valueOfSize
set_option maxRecDepth 20000 in
theorem ggX0_snapped_X1_ofSize : GoodIn wsX0_snapped wsX1_ofSize := goodIn_r _ [42, 18, 43, 19, 20, 21, 22, 23, 44, 45, 46, 27, 28, 29, 30, 31, 32, 33, 34, 35, 36, 37, 38, 39, 47, 48, 49, 24, 25, 26] (by decide +kernel) (by decide +kernel)
set_option maxRecDepth 20000 in
theorem gX0_snapped_X1_ofSize : GoodIn wsX0_snapped (va_wsS RX0 61 yX1_ofSize wsX1_ofSize) := goodIn_app (goodIn_of _ (by decide +kernel)) ggX0_snapped_X1_ofSize
set_option maxRecDepth 20000 in
theorem ggX0_snapped_X1_withSignOf : GoodIn wsX0_snapped wsX1_withSignOf := goodIn_r _ [52, 12, 53] (by decide +kernel) (by decide +kernel)
set_option maxRecDepth 20000 in
theorem gX0_snapped_X1_withSignOf : GoodIn wsX0_snapped (va_wsS RX0 64 yX1_withSignOf wsX1_withSignOf) := goodIn_app (goodIn_of _ (by decide +kernel)) ggX0_snapped_X1_withSignOf
theorem dX0_snapped_0 : decode cX0_snapped 0 = .ok (.aload_n 0, 1) := by decide +kernel
theorem dX0_snapped_1 : decode cX0_snapped 1 = .ok (.lload_n 1, 1) := by decide +kernel
theorem dX0_snapped_2 : decode cX0_snapped 2 = .ok (.iload_n 3, 1) := by decide +kernel
theorem dX0_snapped_3 : decode cX0_snapped 3 = .ok (.invokevirtual 73, 3) := by decide +kernel
theorem dX0_snapped_6 : decode cX0_snapped 6 = .ok (.invokestatic 58, 3) := by decide +kernel
theorem dX0_snapped_9 : decode cX0_snapped 9 = .ok (.dstore 4, 2) := by decide +kernel
theorem dX0_snapped_11 : decode cX0_snapped 11 = .ok (.aload_n 0, 1) := by decide +kernel
theorem dX0_snapped_12 : decode cX0_snapped 12 = .ok (.getfield 30, 3) := by decide +kernel
theorem dX0_snapped_15 : decode cX0_snapped 15 = .ok (.invokestatic 58, 3) := by decide +kernel
theorem dX0_snapped_18 : decode cX0_snapped 18 = .ok (.dstore 6, 2) := by decide +kernel
theorem dX0_snapped_20 : decode cX0_snapped 20 = .ok (.aload_n 0, 1) := by decide +kernel
theorem dX0_snapped_21 : decode cX0_snapped 21 = .ok (.getfield 33, 3) := by decide +kernel
theorem dX0_snapped_24 : decode cX0_snapped 24 = .ok (.ifCond .eq 14, 3) := by decide +kernel
theorem dX0_snapped_27 : decode cX0_snapped 27 = .ok (.dload 4, 2) := by decide +kernel
theorem dX0_snapped_29 : decode cX0_snapped 29 = .ok (.d2f, 1) := by decide +kernel
theorem dX0_snapped_30 : decode cX0_snapped 30 = .ok (.dload 6, 2) := by decide +kernel
theorem dX0_snapped_32 : decode cX0_snapped 32 = .ok (.d2f, 1) := by decide +kernel
theorem dX0_snapped_33 : decode cX0_snapped 33 = .ok (.fmul, 1) := by decide +kernel
theorem dX0_snapped_34 : decode cX0_snapped 34 = .ok (.f2d, 1) := by decide +kernel
theorem dX0_snapped_35 : decode cX0_snapped 35 = .ok (.goto 8, 3) := by decide +kernel
theorem dX0_snapped_38 : decode cX0_snapped 38 = .ok (.dload 4, 2) := by decide +kernel
theorem dX0_snapped_40 : decode cX0_snapped 40 = .ok (.dload 6, 2) := by decide +kernel
theorem dX0_snapped_42 : decode cX0_snapped 42 = .ok (.dmul, 1) := by decide +kernel
theorem dX0_snapped_43 : decode cX0_snapped 43 = .ok (.dstore 8, 2) := by decide +kernel
theorem dX0_snapped_45 : decode cX0_snapped 45 = .ok (.dload 8, 2) := by decide +kernel
theorem dX0_snapped_47 : decode cX0_snapped 47 = .ok (.invokestatic 61, 3) := by decide +kernel
theorem dX0_snapped_50 : decode cX0_snapped 50 = .ok (.lload_n 1, 1) := by decide +kernel
theorem dX0_snapped_51 : decode cX0_snapped 51 = .ok (.invokestatic 64, 3) := by decide +kernel
theorem dX0_snapped_54 : decode cX0_snapped 54 = .ok (.lreturn, 1) := by decide +kernel
set_option maxRecDepth 20000 in
theorem ggX0_outermost_X1_outer : GoodIn wsX0_outermost wsX1_outer := goodIn_r _ [5, 6, 7, 4, 8, 9, 10, 11, 12, 13, 14, 15] (by decide +kernel) (by decide +kernel)
set_option maxRecDepth 20000 in
theorem gX0_outermost_X1_outer : GoodIn wsX0_outermost (va_wsS RX0 76 yX1_outer wsX1_outer) := goodIn_app (goodIn_of _ (by decide +kernel)) ggX0_outermost_X1_outer
theorem dX0_outermost_0 : decode cX0_outermost 0 = .ok (.aload_n 0, 1) := by decide +kernel
theorem dX0_outermost_1 : decode cX0_outermost 1 = .ok (.getfield 9, 3) := by decide +kernel
theorem dX0_outermost_4 : decode cX0_outermost 4 = .ok (.iconst 0, 1) := by decide +kernel
theorem dX0_outermost_5 : decode cX0_outermost 5 = .ok (.laload, 1) := by decide +kernel
theorem dX0_outermost_6 : decode cX0_outermost 6 = .ok (.lstore_n 2, 1) := by decide +kernel
theorem dX0_outermost_7 : decode cX0_outermost 7 = .ok (.iconst 1, 1) := by decide +kernel
theorem dX0_outermost_8 : decode cX0_outermost 8 = .ok (.istore 4, 2) := by decide +kernel
theorem dX0_outermost_10 : decode cX0_outermost 10 = .ok (.iload 4, 2) := by decide +kernel
theorem dX0_outermost_12 : decode cX0_outermost 12 = .ok (.bipush 8, 2) := by decide +kernel
theorem dX0_outermost_14 : decode cX0_outermost 14 = .ok (.if_icmp .ge 22, 3) := by decide +kernel
theorem dX0_outermost_17 : decode cX0_outermost 17 = .ok (.lload_n 2, 1) := by decide +kernel
theorem dX0_outermost_18 : decode cX0_outermost 18 = .ok (.aload_n 0, 1) := by decide +kernel
theorem dX0_outermost_19 : decode cX0_outermost 19 = .ok (.getfield 9, 3) := by decide +kernel
theorem dX0_outermost_22 : decode cX0_outermost 22 = .ok (.iload 4, 2) := by decide +kernel
theorem dX0_outermost_24 : decode cX0_outermost 24 = .ok (.laload, 1) := by decide +kernel
theorem dX0_outermost_25 : decode cX0_outermost 25 = .ok (.iload_n 1, 1) := by decide +kernel
theorem dX0_outermost_26 : decode cX0_outermost 26 = .ok (.invokestatic 76, 3) := by decide +kernel
theorem dX0_outermost_29 : decode cX0_outermost 29 = .ok (.lstore_n 2, 1) := by decide +kernel
theorem dX0_outermost_30 : decode cX0_outermost 30 = .ok (.iinc 4 1, 3) := by decide +kernel
theorem dX0_outermost_33 : decode cX0_outermost 33 = .ok (.goto (-23), 3) := by decide +kernel
theorem dX0_outermost_36 : decode cX0_outermost 36 = .ok (.lload_n 2, 1) := by decide +kernel
theorem dX0_outermost_37 : decode cX0_outermost 37 = .ok (.lreturn, 1) := by decide +kernel
theorem dX1_isNone_0 : decode cX1_isNone 0 = .ok (.lload_n 0, 1) := by decide +kernel
theorem dX1_isNone_1 : decode cX1_isNone 1 = .ok (.ldc2_w 9, 3) := by decide +kernel
theorem dX1_isNone_4 : decode cX1_isNone 4 = .ok (.land, 1) := by decide +kernel
theorem dX1_isNone_5 : decode cX1_isNone 5 = .ok (.ldc2_w 11, 3) := by decide +kernel
theorem dX1_isNone_8 : decode cX1_isNone 8 = .ok (.lcmp, 1) := by decide +kernel
theorem dX1_isNone_9 : decode cX1_isNone 9 = .ok (.ifCond .le 7, 3) := by decide +kernel
theorem dX1_isNone_12 : decode cX1_isNone 12 = .ok (.iconst 1, 1) := by decide +kernel
theorem dX1_isNone_13 : decode cX1_isNone 13 = .ok (.goto 4, 3) := by decide +kernel
theorem dX1_isNone_16 : decode cX1_isNone 16 = .ok (.iconst 0, 1) := by decide +kernel
theorem dX1_isNone_17 : decode cX1_isNone 17 = .ok (.ireturn, 1) := by decide +kernel
theorem dX1_isInfinite_0 : decode cX1_isInfinite 0 = .ok (.lload_n 0, 1) := by decide +kernel
theorem dX1_isInfinite_1 : decode cX1_isInfinite 1 = .ok (.ldc2_w 9, 3) := by decide +kernel
theorem dX1_isInfinite_4 : decode cX1_isInfinite 4 = .ok (.land, 1) := by decide +kernel
end
section
theorem dX1_isInfinite_5 : decode cX1_isInfinite 5 = .ok (.ldc2_w 11, 3) := by decide +kernel
theorem dX1_isInfinite_8 : decode cX1_isInfinite 8 = .ok (.lcmp, 1) := by decide +kernel
theorem dX1_isInfinite_9 : decode cX1_isInfinite 9 = .ok (.ifCond .ne 7, 3) := by decide +kernel
theorem dX1_isInfinite_12 : decode cX1_isInfinite 12 = .ok (.iconst 1, 1) := by decide +kernel
theorem dX1_isInfinite_13 : decode cX1_isInfinite 13 = .ok (.goto 4, 3) := by decide +kernel
theorem dX1_isInfinite_16 : decode cX1_isInfinite 16 = .ok (.iconst 0, 1) := by decide +kernel
theorem dX1_isInfinite_17 : decode cX1_isInfinite 17 = .ok (.ireturn, 1) := by decide +kernel
theorem dX1_isAboveZero_0 : decode cX1_isAboveZero 0 = .ok (.lload_n 0, 1) := by decide +kernel
theorem dX1_isAboveZero_1 : decode cX1_isAboveZero 1 = .ok (.lconst 0, 1) := by decide +kernel
theorem dX1_isAboveZero_2 : decode cX1_isAboveZero 2 = .ok (.lcmp, 1) := by decide +kernel
theorem dX1_isAboveZero_3 : decode cX1_isAboveZero 3 = .ok (.ifCond .le 7, 3) := by decide +kernel
theorem dX1_isAboveZero_6 : decode cX1_isAboveZero 6 = .ok (.iconst 1, 1) := by decide +kernel
theorem dX1_isAboveZero_7 : decode cX1_isAboveZero 7 = .ok (.goto 4, 3) := by decide +kernel
theorem dX1_isAboveZero_10 : decode cX1_isAboveZero 10 = .ok (.iconst 0, 1) := by decide +kernel
theorem dX1_isAboveZero_11 : decode cX1_isAboveZero 11 = .ok (.ireturn, 1) := by decide +kernel
theorem dX1_opposite_0 : decode cX1_opposite 0 = .ok (.lload_n 0, 1) := by decide +kernel
theorem dX1_opposite_1 : decode cX1_opposite 1 = .ok (.ldc2_w 13, 3) := by decide +kernel
theorem dX1_opposite_4 : decode cX1_opposite 4 = .ok (.lxor, 1) := by decide +kernel
theorem dX1_opposite_5 : decode cX1_opposite 5 = .ok (.lreturn, 1) := by decide +kernel
theorem dX1_withSignOf_0 : decode cX1_withSignOf 0 = .ok (.lload_n 0, 1) := by decide +kernel
theorem dX1_withSignOf_1 : decode cX1_withSignOf 1 = .ok (.ldc2_w 9, 3) := by decide +kernel
theorem dX1_withSignOf_4 : decode cX1_withSignOf 4 = .ok (.land, 1) := by decide +kernel
theorem dX1_withSignOf_5 : decode cX1_withSignOf 5 = .ok (.lload_n 2, 1) := by decide +kernel
theorem dX1_withSignOf_6 : decode cX1_withSignOf 6 = .ok (.ldc2_w 13, 3) := by decide +kernel
theorem dX1_withSignOf_9 : decode cX1_withSignOf 9 = .ok (.land, 1) := by decide +kernel
theorem dX1_withSignOf_10 : decode cX1_withSignOf 10 = .ok (.lor, 1) := by decide +kernel
theorem dX1_withSignOf_11 : decode cX1_withSignOf 11 = .ok (.lreturn, 1) := by decide +kernel
set_option maxRecDepth 20000 in
theorem ggX1_unit_X1_withSignOf : GoodIn wsX1_unit wsX1_withSignOf := goodIn_r _ [6, 1, 7] (by decide +kernel) (by decide +kernel)
set_option maxRecDepth 20000 in
theorem gX1_unit_X1_withSignOf : GoodIn wsX1_unit (va_wsS RX1 17 yX1_withSignOf wsX1_withSignOf) := goodIn_app (goodIn_of _ (by decide +kernel)) ggX1_unit_X1_withSignOf
theorem dX1_unit_0 : decode cX1_unit 0 = .ok (.lload_n 0, 1) := by decide +kernel
theorem dX1_unit_1 : decode cX1_unit 1 = .ok (.ldc2_w 9, 3) := by decide +kernel
theorem dX1_unit_4 : decode cX1_unit 4 = .ok (.land, 1) := by decide +kernel
theorem dX1_unit_5 : decode cX1_unit 5 = .ok (.lconst 0, 1) := by decide +kernel
theorem dX1_unit_6 : decode cX1_unit 6 = .ok (.lcmp, 1) := by decide +kernel
theorem dX1_unit_7 : decode cX1_unit 7 = .ok (.ifCond .ne 7, 3) := by decide +kernel
theorem dX1_unit_10 : decode cX1_unit 10 = .ok (.lload_n 0, 1) := by decide +kernel
theorem dX1_unit_11 : decode cX1_unit 11 = .ok (.goto 10, 3) := by decide +kernel
theorem dX1_unit_14 : decode cX1_unit 14 = .ok (.ldc2_w 15, 3) := by decide +kernel
theorem dX1_unit_17 : decode cX1_unit 17 = .ok (.lload_n 0, 1) := by decide +kernel
theorem dX1_unit_18 : decode cX1_unit 18 = .ok (.invokestatic 17, 3) := by decide +kernel
theorem dX1_unit_21 : decode cX1_unit 21 = .ok (.lreturn, 1) := by decide +kernel
theorem dX1_rank_0 : decode cX1_rank 0 = .ok (.lload_n 0, 1) := by decide +kernel
theorem dX1_rank_1 : decode cX1_rank 1 = .ok (.lconst 0, 1) := by decide +kernel
theorem dX1_rank_2 : decode cX1_rank 2 = .ok (.lcmp, 1) := by decide +kernel
theorem dX1_rank_3 : decode cX1_rank 3 = .ok (.ifCond .ge 11, 3) := by decide +kernel
theorem dX1_rank_6 : decode cX1_rank 6 = .ok (.lload_n 0, 1) := by decide +kernel
theorem dX1_rank_7 : decode cX1_rank 7 = .ok (.ldc2_w 9, 3) := by decide +kernel
theorem dX1_rank_10 : decode cX1_rank 10 = .ok (.lxor, 1) := by decide +kernel
theorem dX1_rank_11 : decode cX1_rank 11 = .ok (.goto 4, 3) := by decide +kernel
theorem dX1_rank_14 : decode cX1_rank 14 = .ok (.lload_n 0, 1) := by decide +kernel
theorem dX1_rank_15 : decode cX1_rank 15 = .ok (.lreturn, 1) := by decide +kernel
set_option maxRecDepth 20000 in
theorem ggX1_lesser_X1_rank : GoodIn wsX1_lesser wsX1_rank := goodIn_r _ [4, 5] (by decide +kernel) (by decide +kernel)
set_option maxRecDepth 20000 in
theorem gX1_lesser_X1_rank : GoodIn wsX1_lesser (va_wsS RX1 21 yX1_rank wsX1_rank) := goodIn_app (goodIn_of _ (by decide +kernel)) ggX1_lesser_X1_rank
theorem dX1_lesser_0 : decode cX1_lesser 0 = .ok (.lload_n 0, 1) := by decide +kernel
theorem dX1_lesser_1 : decode cX1_lesser 1 = .ok (.invokestatic 21, 3) := by decide +kernel
theorem dX1_lesser_4 : decode cX1_lesser 4 = .ok (.lload_n 2, 1) := by decide +kernel
theorem dX1_lesser_5 : decode cX1_lesser 5 = .ok (.invokestatic 21, 3) := by decide +kernel
theorem dX1_lesser_8 : decode cX1_lesser 8 = .ok (.lcmp, 1) := by decide +kernel
theorem dX1_lesser_9 : decode cX1_lesser 9 = .ok (.ifCond .gt 7, 3) := by decide +kernel
theorem dX1_lesser_12 : decode cX1_lesser 12 = .ok (.lload_n 0, 1) := by decide +kernel
theorem dX1_lesser_13 : decode cX1_lesser 13 = .ok (.goto 4, 3) := by decide +kernel
theorem dX1_lesser_16 : decode cX1_lesser 16 = .ok (.lload_n 2, 1) := by decide +kernel
theorem dX1_lesser_17 : decode cX1_lesser 17 = .ok (.lreturn, 1) := by decide +kernel
set_option maxRecDepth 20000 in
theorem ggX1_greater_X1_rank : GoodIn wsX1_greater wsX1_rank := goodIn_r _ [4, 5] (by decide +kernel) (by decide +kernel)
set_option maxRecDepth 20000 in
theorem gX1_greater_X1_rank : GoodIn wsX1_greater (va_wsS RX1 21 yX1_rank wsX1_rank) := goodIn_app (goodIn_of _ (by decide +kernel)) ggX1_greater_X1_rank
theorem dX1_greater_0 : decode cX1_greater 0 = .ok (.lload_n 0, 1) := by decide +kernel
theorem dX1_greater_1 : decode cX1_greater 1 = .ok (.invokestatic 21, 3) := by decide +kernel
theorem dX1_greater_4 : decode cX1_greater 4 = .ok (.lload_n 2, 1) := by decide +kernel
theorem dX1_greater_5 : decode cX1_greater 5 = .ok (.invokestatic 21, 3) := by decide +kernel
theorem dX1_greater_8 : decode cX1_greater 8 = .ok (.lcmp, 1) := by decide +kernel
theorem dX1_greater_9 : decode cX1_greater 9 = .ok (.ifCond .lt 7, 3) := by decide +kernel
theorem dX1_greater_12 : decode cX1_greater 12 = .ok (.lload_n 0, 1) := by decide +kernel
theorem dX1_greater_13 : decode cX1_greater 13 = .ok (.goto 4, 3) := by decide +kernel
theorem dX1_greater_16 : decode cX1_greater 16 = .ok (.lload_n 2, 1) := by decide +kernel
theorem dX1_greater_17 : decode cX1_greater 17 = .ok (.lreturn, 1) := by decide +kernel
set_option maxRecDepth 20000 in
theorem ggX1_outer_X1_greater : GoodIn wsX1_outer wsX1_greater := goodIn_r _ [4, 5, 6, 3, 7, 8] (by decide +kernel) (by decide +kernel)
set_option maxRecDepth 20000 in
theorem gX1_outer_X1_greater : GoodIn wsX1_outer (va_wsS RX1 25 yX1_greater wsX1_greater) := goodIn_app (goodIn_of _ (by decide +kernel)) ggX1_outer_X1_greater
set_option maxRecDepth 20000 in
theorem ggX1_outer_X1_lesser : GoodIn wsX1_outer wsX1_lesser := goodIn_r _ [11, 5, 6, 3, 7, 8] (by decide +kernel) (by decide +kernel)
set_option maxRecDepth 20000 in
theorem gX1_outer_X1_lesser : GoodIn wsX1_outer (va_wsS RX1 28 yX1_lesser wsX1_lesser) := goodIn_app (goodIn_of _ (by decide +kernel)) ggX1_outer_X1_lesser
theorem dX1_outer_0 : decode cX1_outer 0 = .ok (.iload 4, 2) := by decide +kernel
theorem dX1_outer_2 : decode cX1_outer 2 = .ok (.ifCond .ne 11, 3) := by decide +kernel
theorem dX1_outer_5 : decode cX1_outer 5 = .ok (.lload_n 0, 1) := by decide +kernel
theorem dX1_outer_6 : decode cX1_outer 6 = .ok (.lload_n 2, 1) := by decide +kernel
theorem dX1_outer_7 : decode cX1_outer 7 = .ok (.invokestatic 25, 3) := by decide +kernel
theorem dX1_outer_10 : decode cX1_outer 10 = .ok (.goto 8, 3) := by decide +kernel
theorem dX1_outer_13 : decode cX1_outer 13 = .ok (.lload_n 0, 1) := by decide +kernel
theorem dX1_outer_14 : decode cX1_outer 14 = .ok (.lload_n 2, 1) := by decide +kernel
theorem dX1_outer_15 : decode cX1_outer 15 = .ok (.invokestatic 28, 3) := by decide +kernel
theorem dX1_outer_18 : decode cX1_outer 18 = .ok (.lreturn, 1) := by decide +kernel
set_option maxRecDepth 20000 in
theorem ggX1_value_X1_valueOfSize : GoodIn wsX1_value wsX1_valueOfSize := goodIn_r _ [4, 5, 6, 7, 8, 9, 3, 10, 11, 12, 13, 14, 15, 16, 17, 18, 19, 20, 21, 22, 23, 24, 25, 26, 27, 28, 29, 30, 31, 32] (by decide +kernel) (by decide +kernel)
set_option maxRecDepth 20000 in
theorem gX1_value_X1_valueOfSize : GoodIn wsX1_value (va_wsS RX1 31 yX1_valueOfSize wsX1_valueOfSize) := goodIn_app (goodIn_of _ (by decide +kernel)) ggX1_value_X1_valueOfSize
theorem dX1_value_0 : decode cX1_value 0 = .ok (.lload_n 0, 1) := by decide +kernel
theorem dX1_value_1 : decode cX1_value 1 = .ok (.invokestatic 31, 3) := by decide +kernel
theorem dX1_value_4 : decode cX1_value 4 = .ok (.dstore_n 2, 1) := by decide +kernel
theorem dX1_value_5 : decode cX1_value 5 = .ok (.lload_n 0, 1) := by decide +kernel
theorem dX1_value_6 : decode cX1_value 6 = .ok (.lconst 0, 1) := by decide +kernel
theorem dX1_value_7 : decode cX1_value 7 = .ok (.lcmp, 1) := by decide +kernel
theorem dX1_value_8 : decode cX1_value 8 = .ok (.ifCond .ge 8, 3) := by decide +kernel
theorem dX1_value_11 : decode cX1_value 11 = .ok (.dload_n 2, 1) := by decide +kernel
theorem dX1_value_12 : decode cX1_value 12 = .ok (.dneg, 1) := by decide +kernel
theorem dX1_value_13 : decode cX1_value 13 = .ok (.goto 4, 3) := by decide +kernel
theorem dX1_value_16 : decode cX1_value 16 = .ok (.dload_n 2, 1) := by decide +kernel
theorem dX1_value_17 : decode cX1_value 17 = .ok (.dreturn, 1) := by decide +kernel
set_option maxRecDepth 20000 in
theorem ggX1_valueOfSize_X1_isInfinite : GoodIn wsX1_valueOfSize wsX1_isInfinite := goodIn_r _ [7, 1, 8] (by decide +kernel) (by decide +kernel)
set_option maxRecDepth 20000 in
theorem gX1_valueOfSize_X1_isInfinite : GoodIn wsX1_valueOfSize (va_wsS RX1 35 yX1_isInfinite wsX1_isInfinite) := goodIn_app (goodIn_of _ (by decide +kernel)) ggX1_valueOfSize_X1_isInfinite
set_option maxRecDepth 20000 in
theorem ggX1_valueOfSize_X2_beyondAll : GoodIn wsX1_valueOfSize wsX2_beyondAll := goodIn_r _ [12, 13] (by decide +kernel) (by decide +kernel)
set_option maxRecDepth 20000 in
theorem gX1_valueOfSize_X2_beyondAll : GoodIn wsX1_valueOfSize (va_wsS RX1 39 yX2_beyondAll wsX2_beyondAll) := goodIn_app (goodIn_of _ (by decide +kernel)) ggX1_valueOfSize_X2_beyondAll
set_option maxRecDepth 20000 in
theorem ggX1_valueOfSize_X2_scaled : GoodIn wsX1_valueOfSize wsX2_scaled := goodIn_r _ [16, 17, 18, 11, 19, 20, 21, 22, 23, 24, 25, 26, 27, 28, 29] (by decide +kernel) (by decide +kernel)
set_option maxRecDepth 20000 in
theorem gX1_valueOfSize_X2_scaled : GoodIn wsX1_valueOfSize (va_wsS RX1 49 yX2_scaled wsX2_scaled) := goodIn_app (goodIn_of _ (by decide +kernel)) ggX1_valueOfSize_X2_scaled
theorem dX1_valueOfSize_0 : decode cX1_valueOfSize 0 = .ok (.lload_n 0, 1) := by decide +kernel
theorem dX1_valueOfSize_1 : decode cX1_valueOfSize 1 = .ok (.invokestatic 35, 3) := by decide +kernel
theorem dX1_valueOfSize_4 : decode cX1_valueOfSize 4 = .ok (.ifCond .eq 7, 3) := by decide +kernel
theorem dX1_valueOfSize_7 : decode cX1_valueOfSize 7 = .ok (.invokestatic 39, 3) := by decide +kernel
theorem dX1_valueOfSize_10 : decode cX1_valueOfSize 10 = .ok (.dreturn, 1) := by decide +kernel
theorem dX1_valueOfSize_11 : decode cX1_valueOfSize 11 = .ok (.lload_n 0, 1) := by decide +kernel
theorem dX1_valueOfSize_12 : decode cX1_valueOfSize 12 = .ok (.ldc2_w 9, 3) := by decide +kernel
theorem dX1_valueOfSize_15 : decode cX1_valueOfSize 15 = .ok (.land, 1) := by decide +kernel
theorem dX1_valueOfSize_16 : decode cX1_valueOfSize 16 = .ok (.bipush 52, 2) := by decide +kernel
theorem dX1_valueOfSize_18 : decode cX1_valueOfSize 18 = .ok (.lushr, 1) := by decide +kernel
theorem dX1_valueOfSize_19 : decode cX1_valueOfSize 19 = .ok (.l2i, 1) := by decide +kernel
theorem dX1_valueOfSize_20 : decode cX1_valueOfSize 20 = .ok (.istore_n 2, 1) := by decide +kernel
theorem dX1_valueOfSize_21 : decode cX1_valueOfSize 21 = .ok (.lload_n 0, 1) := by decide +kernel
theorem dX1_valueOfSize_22 : decode cX1_valueOfSize 22 = .ok (.ldc2_w 45, 3) := by decide +kernel
theorem dX1_valueOfSize_25 : decode cX1_valueOfSize 25 = .ok (.land, 1) := by decide +kernel
theorem dX1_valueOfSize_26 : decode cX1_valueOfSize 26 = .ok (.l2d, 1) := by decide +kernel
theorem dX1_valueOfSize_27 : decode cX1_valueOfSize 27 = .ok (.ldc2_w 47, 3) := by decide +kernel
theorem dX1_valueOfSize_30 : decode cX1_valueOfSize 30 = .ok (.dmul, 1) := by decide +kernel
theorem dX1_valueOfSize_31 : decode cX1_valueOfSize 31 = .ok (.dstore_n 3, 1) := by decide +kernel
theorem dX1_valueOfSize_32 : decode cX1_valueOfSize 32 = .ok (.iload_n 2, 1) := by decide +kernel
theorem dX1_valueOfSize_33 : decode cX1_valueOfSize 33 = .ok (.ifCond .ne 13, 3) := by decide +kernel
theorem dX1_valueOfSize_36 : decode cX1_valueOfSize 36 = .ok (.dload_n 3, 1) := by decide +kernel
theorem dX1_valueOfSize_37 : decode cX1_valueOfSize 37 = .ok (.sipush (-1022), 3) := by decide +kernel
theorem dX1_valueOfSize_40 : decode cX1_valueOfSize 40 = .ok (.invokestatic 49, 3) := by decide +kernel
theorem dX1_valueOfSize_43 : decode cX1_valueOfSize 43 = .ok (.goto 14, 3) := by decide +kernel
theorem dX1_valueOfSize_46 : decode cX1_valueOfSize 46 = .ok (.dconst 1, 1) := by decide +kernel
theorem dX1_valueOfSize_47 : decode cX1_valueOfSize 47 = .ok (.dload_n 3, 1) := by decide +kernel
theorem dX1_valueOfSize_48 : decode cX1_valueOfSize 48 = .ok (.dadd, 1) := by decide +kernel
theorem dX1_valueOfSize_49 : decode cX1_valueOfSize 49 = .ok (.iload_n 2, 1) := by decide +kernel
theorem dX1_valueOfSize_50 : decode cX1_valueOfSize 50 = .ok (.sipush 1023, 3) := by decide +kernel
theorem dX1_valueOfSize_53 : decode cX1_valueOfSize 53 = .ok (.isub, 1) := by decide +kernel
theorem dX1_valueOfSize_54 : decode cX1_valueOfSize 54 = .ok (.invokestatic 49, 3) := by decide +kernel
theorem dX1_valueOfSize_57 : decode cX1_valueOfSize 57 = .ok (.dreturn, 1) := by decide +kernel
set_option maxRecDepth 20000 in
theorem ggX1_of_X1_ofSize : GoodIn wsX1_of wsX1_ofSize := goodIn_r _ [5, 6, 7, 8, 9, 10, 11, 12, 13, 14, 15, 16, 17, 18, 19, 20, 21, 22, 23, 24, 25, 26, 27, 28, 29, 30, 31, 32, 33, 34] (by decide +kernel) (by decide +kernel)
set_option maxRecDepth 20000 in
theorem gX1_of_X1_ofSize : GoodIn wsX1_of (va_wsS RX1 53 yX1_ofSize wsX1_ofSize) := goodIn_app (goodIn_of _ (by decide +kernel)) ggX1_of_X1_ofSize
theorem dX1_of_0 : decode cX1_of 0 = .ok (.dload_n 0, 1) := by decide +kernel
theorem dX1_of_1 : decode cX1_of 1 = .ok (.dconst 0, 1) := by decide +kernel
theorem dX1_of_2 : decode cX1_of 2 = .ok (.dcmp .g, 1) := by decide +kernel
theorem dX1_of_3 : decode cX1_of 3 = .ok (.ifCond .ge 15, 3) := by decide +kernel
theorem dX1_of_6 : decode cX1_of 6 = .ok (.ldc2_w 13, 3) := by decide +kernel
theorem dX1_of_9 : decode cX1_of 9 = .ok (.dload_n 0, 1) := by decide +kernel
theorem dX1_of_10 : decode cX1_of 10 = .ok (.dneg, 1) := by decide +kernel
theorem dX1_of_11 : decode cX1_of 11 = .ok (.invokestatic 53, 3) := by decide +kernel
theorem dX1_of_14 : decode cX1_of 14 = .ok (.lor, 1) := by decide +kernel
theorem dX1_of_15 : decode cX1_of 15 = .ok (.goto 7, 3) := by decide +kernel
theorem dX1_of_18 : decode cX1_of 18 = .ok (.dload_n 0, 1) := by decide +kernel
theorem dX1_of_19 : decode cX1_of 19 = .ok (.invokestatic 53, 3) := by decide +kernel
theorem dX1_of_22 : decode cX1_of 22 = .ok (.lreturn, 1) := by decide +kernel
set_option maxRecDepth 20000 in
theorem ggX1_ofSize_X2_beyondAll : GoodIn wsX1_ofSize wsX2_beyondAll := goodIn_r _ [6, 7] (by decide +kernel) (by decide +kernel)
set_option maxRecDepth 20000 in
theorem gX1_ofSize_X2_beyondAll : GoodIn wsX1_ofSize (va_wsS RX1 39 yX2_beyondAll wsX2_beyondAll) := goodIn_app (goodIn_of _ (by decide +kernel)) ggX1_ofSize_X2_beyondAll
set_option maxRecDepth 20000 in
theorem ggX1_ofSize_X2_floorFromOne : GoodIn wsX1_ofSize wsX2_floorFromOne := goodIn_r _ [10, 11, 12, 5, 13, 14, 15, 16, 17, 18, 19, 20, 21, 22, 23] (by decide +kernel) (by decide +kernel)
set_option maxRecDepth 20000 in
theorem gX1_ofSize_X2_floorFromOne : GoodIn wsX1_ofSize (va_wsS RX1 57 yX2_floorFromOne wsX2_floorFromOne) := goodIn_app (goodIn_of _ (by decide +kernel)) ggX1_ofSize_X2_floorFromOne
set_option maxRecDepth 20000 in
theorem ggX1_ofSize_X2_floorBelowOne : GoodIn wsX1_ofSize wsX2_floorBelowOne := goodIn_r _ [26, 14, 11, 12, 5, 13, 15, 16, 17, 18, 19, 20, 21, 22, 23] (by decide +kernel) (by decide +kernel)
set_option maxRecDepth 20000 in
theorem gX1_ofSize_X2_floorBelowOne : GoodIn wsX1_ofSize (va_wsS RX1 61 yX2_floorBelowOne wsX2_floorBelowOne) := goodIn_app (goodIn_of _ (by decide +kernel)) ggX1_ofSize_X2_floorBelowOne
set_option maxRecDepth 20000 in
theorem ggX1_ofSize_X2_scaled : GoodIn wsX1_ofSize wsX2_scaled := goodIn_r _ [29, 11, 12, 5, 13, 14, 15, 16, 17, 18, 19, 20, 21, 22, 23] (by decide +kernel) (by decide +kernel)
set_option maxRecDepth 20000 in
theorem gX1_ofSize_X2_scaled : GoodIn wsX1_ofSize (va_wsS RX1 49 yX2_scaled wsX2_scaled) := goodIn_app (goodIn_of _ (by decide +kernel)) ggX1_ofSize_X2_scaled
theorem dX1_ofSize_0 : decode cX1_ofSize 0 = .ok (.dload_n 0, 1) := by decide +kernel
theorem dX1_ofSize_1 : decode cX1_ofSize 1 = .ok (.invokestatic 39, 3) := by decide +kernel
theorem dX1_ofSize_4 : decode cX1_ofSize 4 = .ok (.dcmp .l, 1) := by decide +kernel
theorem dX1_ofSize_5 : decode cX1_ofSize 5 = .ok (.ifCond .ne 7, 3) := by decide +kernel
theorem dX1_ofSize_8 : decode cX1_ofSize 8 = .ok (.ldc2_w 11, 3) := by decide +kernel
theorem dX1_ofSize_11 : decode cX1_ofSize 11 = .ok (.lreturn, 1) := by decide +kernel
theorem dX1_ofSize_12 : decode cX1_ofSize 12 = .ok (.dload_n 0, 1) := by decide +kernel
theorem dX1_ofSize_13 : decode cX1_ofSize 13 = .ok (.dconst 1, 1) := by decide +kernel
theorem dX1_ofSize_14 : decode cX1_ofSize 14 = .ok (.dcmp .l, 1) := by decide +kernel
theorem dX1_ofSize_15 : decode cX1_ofSize 15 = .ok (.ifCond .lt 10, 3) := by decide +kernel
theorem dX1_ofSize_18 : decode cX1_ofSize 18 = .ok (.dload_n 0, 1) := by decide +kernel
theorem dX1_ofSize_19 : decode cX1_ofSize 19 = .ok (.invokestatic 57, 3) := by decide +kernel
theorem dX1_ofSize_22 : decode cX1_ofSize 22 = .ok (.goto 10, 3) := by decide +kernel
theorem dX1_ofSize_25 : decode cX1_ofSize 25 = .ok (.dload_n 0, 1) := by decide +kernel
theorem dX1_ofSize_26 : decode cX1_ofSize 26 = .ok (.sipush (-1022), 3) := by decide +kernel
theorem dX1_ofSize_29 : decode cX1_ofSize 29 = .ok (.invokestatic 61, 3) := by decide +kernel
theorem dX1_ofSize_32 : decode cX1_ofSize 32 = .ok (.istore_n 2, 1) := by decide +kernel
theorem dX1_ofSize_33 : decode cX1_ofSize 33 = .ok (.dload_n 0, 1) := by decide +kernel
theorem dX1_ofSize_34 : decode cX1_ofSize 34 = .ok (.iload_n 2, 1) := by decide +kernel
theorem dX1_ofSize_35 : decode cX1_ofSize 35 = .ok (.ineg, 1) := by decide +kernel
theorem dX1_ofSize_36 : decode cX1_ofSize 36 = .ok (.invokestatic 49, 3) := by decide +kernel
theorem dX1_ofSize_39 : decode cX1_ofSize 39 = .ok (.ldc2_w 65, 3) := by decide +kernel
theorem dX1_ofSize_42 : decode cX1_ofSize 42 = .ok (.dmul, 1) := by decide +kernel
theorem dX1_ofSize_43 : decode cX1_ofSize 43 = .ok (.d2l, 1) := by decide +kernel
theorem dX1_ofSize_44 : decode cX1_ofSize 44 = .ok (.lstore_n 3, 1) := by decide +kernel
theorem dX1_ofSize_45 : decode cX1_ofSize 45 = .ok (.iload_n 2, 1) := by decide +kernel
theorem dX1_ofSize_46 : decode cX1_ofSize 46 = .ok (.sipush (-1022), 3) := by decide +kernel
theorem dX1_ofSize_49 : decode cX1_ofSize 49 = .ok (.isub, 1) := by decide +kernel
theorem dX1_ofSize_50 : decode cX1_ofSize 50 = .ok (.i2l, 1) := by decide +kernel
theorem dX1_ofSize_51 : decode cX1_ofSize 51 = .ok (.bipush 52, 2) := by decide +kernel
theorem dX1_ofSize_53 : decode cX1_ofSize 53 = .ok (.lshl, 1) := by decide +kernel
theorem dX1_ofSize_54 : decode cX1_ofSize 54 = .ok (.lload_n 3, 1) := by decide +kernel
theorem dX1_ofSize_55 : decode cX1_ofSize 55 = .ok (.ladd, 1) := by decide +kernel
theorem dX1_ofSize_56 : decode cX1_ofSize 56 = .ok (.lreturn, 1) := by decide +kernel
theorem dX2_leap_0 : decode cX2_leap 0 = .ok (.iload_n 0, 1) := by decide +kernel
theorem dX2_leap_1 : decode cX2_leap 1 = .ok (.tableswitch 87 0 8 #[51, 55, 59, 63, 67, 71, 75, 79, 83], 51) := by decide +kernel
theorem dX2_leap_52 : decode cX2_leap 52 = .ok (.ldc2_w 7, 3) := by decide +kernel
theorem dX2_leap_55 : decode cX2_leap 55 = .ok (.dreturn, 1) := by decide +kernel
theorem dX2_leap_56 : decode cX2_leap 56 = .ok (.ldc2_w 9, 3) := by decide +kernel
theorem dX2_leap_59 : decode cX2_leap 59 = .ok (.dreturn, 1) := by decide +kernel
theorem dX2_leap_60 : decode cX2_leap 60 = .ok (.ldc2_w 11, 3) := by decide +kernel
theorem dX2_leap_63 : decode cX2_leap 63 = .ok (.dreturn, 1) := by decide +kernel
theorem dX2_leap_64 : decode cX2_leap 64 = .ok (.ldc2_w 13, 3) := by decide +kernel
theorem dX2_leap_67 : decode cX2_leap 67 = .ok (.dreturn, 1) := by decide +kernel
theorem dX2_leap_68 : decode cX2_leap 68 = .ok (.ldc2_w 15, 3) := by decide +kernel
theorem dX2_leap_71 : decode cX2_leap 71 = .ok (.dreturn, 1) := by decide +kernel
theorem dX2_leap_72 : decode cX2_leap 72 = .ok (.ldc2_w 17, 3) := by decide +kernel
theorem dX2_leap_75 : decode cX2_leap 75 = .ok (.dreturn, 1) := by decide +kernel
theorem dX2_leap_76 : decode cX2_leap 76 = .ok (.ldc2_w 19, 3) := by decide +kernel
theorem dX2_leap_79 : decode cX2_leap 79 = .ok (.dreturn, 1) := by decide +kernel
theorem dX2_leap_80 : decode cX2_leap 80 = .ok (.ldc2_w 21, 3) := by decide +kernel
theorem dX2_leap_83 : decode cX2_leap 83 = .ok (.dreturn, 1) := by decide +kernel
theorem dX2_leap_84 : decode cX2_leap 84 = .ok (.ldc2_w 23, 3) := by decide +kernel
theorem dX2_leap_87 : decode cX2_leap 87 = .ok (.dreturn, 1) := by decide +kernel
theorem dX2_leap_88 : decode cX2_leap 88 = .ok (.ldc2_w 25, 3) := by decide +kernel
theorem dX2_leap_91 : decode cX2_leap 91 = .ok (.dreturn, 1) := by decide +kernel
theorem dX2_beyondAll_0 : decode cX2_beyondAll 0 = .ok (.ldc2_w 27, 3) := by decide +kernel
theorem dX2_beyondAll_3 : decode cX2_beyondAll 3 = .ok (.dreturn, 1) := by decide +kernel
set_option maxRecDepth 20000 in
theorem ggX2_scaled_X2_leap : GoodIn wsX2_scaled wsX2_leap := goodIn_r _ [4, 5, 6, 7, 8, 9, 10, 11, 12, 13, 14] (by decide +kernel) (by decide +kernel)
set_option maxRecDepth 20000 in
theorem gX2_scaled_X2_leap : GoodIn wsX2_scaled (va_wsS RX2 31 yX2_leap wsX2_leap) := goodIn_app (goodIn_of _ (by decide +kernel)) ggX2_scaled_X2_leap
theorem dX2_scaled_0 : decode cX2_scaled 0 = .ok (.iload_n 2, 1) := by decide +kernel
theorem dX2_scaled_1 : decode cX2_scaled 1 = .ok (.ifCond .ge 8, 3) := by decide +kernel
theorem dX2_scaled_4 : decode cX2_scaled 4 = .ok (.iload_n 2, 1) := by decide +kernel
theorem dX2_scaled_5 : decode cX2_scaled 5 = .ok (.ineg, 1) := by decide +kernel
theorem dX2_scaled_6 : decode cX2_scaled 6 = .ok (.goto 4, 3) := by decide +kernel
theorem dX2_scaled_9 : decode cX2_scaled 9 = .ok (.iload_n 2, 1) := by decide +kernel
theorem dX2_scaled_10 : decode cX2_scaled 10 = .ok (.istore_n 3, 1) := by decide +kernel
theorem dX2_scaled_11 : decode cX2_scaled 11 = .ok (.dload_n 0, 1) := by decide +kernel
theorem dX2_scaled_12 : decode cX2_scaled 12 = .ok (.dstore 4, 2) := by decide +kernel
theorem dX2_scaled_14 : decode cX2_scaled 14 = .ok (.iconst 0, 1) := by decide +kernel
theorem dX2_scaled_15 : decode cX2_scaled 15 = .ok (.istore 6, 2) := by decide +kernel
theorem dX2_scaled_17 : decode cX2_scaled 17 = .ok (.iload 6, 2) := by decide +kernel
theorem dX2_scaled_19 : decode cX2_scaled 19 = .ok (.bipush 10, 2) := by decide +kernel
theorem dX2_scaled_21 : decode cX2_scaled 21 = .ok (.if_icmp .ge 43, 3) := by decide +kernel
theorem dX2_scaled_24 : decode cX2_scaled 24 = .ok (.iload_n 3, 1) := by decide +kernel
theorem dX2_scaled_25 : decode cX2_scaled 25 = .ok (.iload 6, 2) := by decide +kernel
theorem dX2_scaled_27 : decode cX2_scaled 27 = .ok (.ishr, 1) := by decide +kernel
theorem dX2_scaled_28 : decode cX2_scaled 28 = .ok (.iconst 1, 1) := by decide +kernel
theorem dX2_scaled_29 : decode cX2_scaled 29 = .ok (.iand, 1) := by decide +kernel
theorem dX2_scaled_30 : decode cX2_scaled 30 = .ok (.ifCond .eq 28, 3) := by decide +kernel
theorem dX2_scaled_33 : decode cX2_scaled 33 = .ok (.iload_n 2, 1) := by decide +kernel
theorem dX2_scaled_34 : decode cX2_scaled 34 = .ok (.ifCond .ge 14, 3) := by decide +kernel
theorem dX2_scaled_37 : decode cX2_scaled 37 = .ok (.dload 4, 2) := by decide +kernel
theorem dX2_scaled_39 : decode cX2_scaled 39 = .ok (.iload 6, 2) := by decide +kernel
theorem dX2_scaled_41 : decode cX2_scaled 41 = .ok (.invokestatic 31, 3) := by decide +kernel
theorem dX2_scaled_44 : decode cX2_scaled 44 = .ok (.ddiv, 1) := by decide +kernel
theorem dX2_scaled_45 : decode cX2_scaled 45 = .ok (.goto 11, 3) := by decide +kernel
theorem dX2_scaled_48 : decode cX2_scaled 48 = .ok (.dload 4, 2) := by decide +kernel
theorem dX2_scaled_50 : decode cX2_scaled 50 = .ok (.iload 6, 2) := by decide +kernel
theorem dX2_scaled_52 : decode cX2_scaled 52 = .ok (.invokestatic 31, 3) := by decide +kernel
theorem dX2_scaled_55 : decode cX2_scaled 55 = .ok (.dmul, 1) := by decide +kernel
theorem dX2_scaled_56 : decode cX2_scaled 56 = .ok (.dstore 4, 2) := by decide +kernel
theorem dX2_scaled_58 : decode cX2_scaled 58 = .ok (.iinc 6 1, 3) := by decide +kernel
theorem dX2_scaled_61 : decode cX2_scaled 61 = .ok (.goto (-44), 3) := by decide +kernel
theorem dX2_scaled_64 : decode cX2_scaled 64 = .ok (.dload 4, 2) := by decide +kernel
theorem dX2_scaled_66 : decode cX2_scaled 66 = .ok (.dreturn, 1) := by decide +kernel
set_option maxRecDepth 20000 in
theorem ggX2_floorFromOne_X2_leap : GoodIn wsX2_floorFromOne wsX2_leap := goodIn_r _ [4, 5, 6, 7, 8, 9, 10, 11, 12, 13, 14] (by decide +kernel) (by decide +kernel)
set_option maxRecDepth 20000 in
theorem gX2_floorFromOne_X2_leap : GoodIn wsX2_floorFromOne (va_wsS RX2 31 yX2_leap wsX2_leap) := goodIn_app (goodIn_of _ (by decide +kernel)) ggX2_floorFromOne_X2_leap
theorem dX2_floorFromOne_0 : decode cX2_floorFromOne 0 = .ok (.iconst 0, 1) := by decide +kernel
theorem dX2_floorFromOne_1 : decode cX2_floorFromOne 1 = .ok (.istore_n 2, 1) := by decide +kernel
theorem dX2_floorFromOne_2 : decode cX2_floorFromOne 2 = .ok (.dload_n 0, 1) := by decide +kernel
theorem dX2_floorFromOne_3 : decode cX2_floorFromOne 3 = .ok (.dstore_n 3, 1) := by decide +kernel
theorem dX2_floorFromOne_4 : decode cX2_floorFromOne 4 = .ok (.bipush 9, 2) := by decide +kernel
theorem dX2_floorFromOne_6 : decode cX2_floorFromOne 6 = .ok (.istore 5, 2) := by decide +kernel
theorem dX2_floorFromOne_8 : decode cX2_floorFromOne 8 = .ok (.iload 5, 2) := by decide +kernel
theorem dX2_floorFromOne_10 : decode cX2_floorFromOne 10 = .ok (.ifCond .lt 34, 3) := by decide +kernel
theorem dX2_floorFromOne_13 : decode cX2_floorFromOne 13 = .ok (.dload_n 3, 1) := by decide +kernel
theorem dX2_floorFromOne_14 : decode cX2_floorFromOne 14 = .ok (.iload 5, 2) := by decide +kernel
theorem dX2_floorFromOne_16 : decode cX2_floorFromOne 16 = .ok (.invokestatic 31, 3) := by decide +kernel
theorem dX2_floorFromOne_19 : decode cX2_floorFromOne 19 = .ok (.dcmp .l, 1) := by decide +kernel
theorem dX2_floorFromOne_20 : decode cX2_floorFromOne 20 = .ok (.ifCond .lt 18, 3) := by decide +kernel
theorem dX2_floorFromOne_23 : decode cX2_floorFromOne 23 = .ok (.dload_n 3, 1) := by decide +kernel
theorem dX2_floorFromOne_24 : decode cX2_floorFromOne 24 = .ok (.iload 5, 2) := by decide +kernel
theorem dX2_floorFromOne_26 : decode cX2_floorFromOne 26 = .ok (.invokestatic 31, 3) := by decide +kernel
theorem dX2_floorFromOne_29 : decode cX2_floorFromOne 29 = .ok (.ddiv, 1) := by decide +kernel
theorem dX2_floorFromOne_30 : decode cX2_floorFromOne 30 = .ok (.dstore_n 3, 1) := by decide +kernel
theorem dX2_floorFromOne_31 : decode cX2_floorFromOne 31 = .ok (.iload_n 2, 1) := by decide +kernel
theorem dX2_floorFromOne_32 : decode cX2_floorFromOne 32 = .ok (.iconst 1, 1) := by decide +kernel
theorem dX2_floorFromOne_33 : decode cX2_floorFromOne 33 = .ok (.iload 5, 2) := by decide +kernel
theorem dX2_floorFromOne_35 : decode cX2_floorFromOne 35 = .ok (.ishl, 1) := by decide +kernel
theorem dX2_floorFromOne_36 : decode cX2_floorFromOne 36 = .ok (.iadd, 1) := by decide +kernel
theorem dX2_floorFromOne_37 : decode cX2_floorFromOne 37 = .ok (.istore_n 2, 1) := by decide +kernel
theorem dX2_floorFromOne_38 : decode cX2_floorFromOne 38 = .ok (.iinc 5 (-1), 3) := by decide +kernel
theorem dX2_floorFromOne_41 : decode cX2_floorFromOne 41 = .ok (.goto (-33), 3) := by decide +kernel
theorem dX2_floorFromOne_44 : decode cX2_floorFromOne 44 = .ok (.iload_n 2, 1) := by decide +kernel
theorem dX2_floorFromOne_45 : decode cX2_floorFromOne 45 = .ok (.ireturn, 1) := by decide +kernel
set_option maxRecDepth 20000 in
theorem ggX2_floorBelowOne_X2_leap : GoodIn wsX2_floorBelowOne wsX2_leap := goodIn_r _ [5, 1, 6, 7, 8, 9, 10, 11, 12, 13, 14] (by decide +kernel) (by decide +kernel)
set_option maxRecDepth 20000 in
theorem gX2_floorBelowOne_X2_leap : GoodIn wsX2_floorBelowOne (va_wsS RX2 31 yX2_leap wsX2_leap) := goodIn_app (goodIn_of _ (by decide +kernel)) ggX2_floorBelowOne_X2_leap
theorem dX2_floorBelowOne_0 : decode cX2_floorBelowOne 0 = .ok (.iconst 0, 1) := by decide +kernel
theorem dX2_floorBelowOne_1 : decode cX2_floorBelowOne 1 = .ok (.istore_n 3, 1) := by decide +kernel
theorem dX2_floorBelowOne_2 : decode cX2_floorBelowOne 2 = .ok (.dload_n 0, 1) := by decide +kernel
theorem dX2_floorBelowOne_3 : decode cX2_floorBelowOne 3 = .ok (.dstore 4, 2) := by decide +kernel
theorem dX2_floorBelowOne_5 : decode cX2_floorBelowOne 5 = .ok (.bipush 9, 2) := by decide +kernel
theorem dX2_floorBelowOne_7 : decode cX2_floorBelowOne 7 = .ok (.istore 6, 2) := by decide +kernel
theorem dX2_floorBelowOne_9 : decode cX2_floorBelowOne 9 = .ok (.iload 6, 2) := by decide +kernel
theorem dX2_floorBelowOne_11 : decode cX2_floorBelowOne 11 = .ok (.ifCond .lt 51, 3) := by decide +kernel
theorem dX2_floorBelowOne_14 : decode cX2_floorBelowOne 14 = .ok (.iload_n 3, 1) := by decide +kernel
theorem dX2_floorBelowOne_15 : decode cX2_floorBelowOne 15 = .ok (.iconst 1, 1) := by decide +kernel
theorem dX2_floorBelowOne_16 : decode cX2_floorBelowOne 16 = .ok (.iload 6, 2) := by decide +kernel
theorem dX2_floorBelowOne_18 : decode cX2_floorBelowOne 18 = .ok (.ishl, 1) := by decide +kernel
theorem dX2_floorBelowOne_19 : decode cX2_floorBelowOne 19 = .ok (.isub, 1) := by decide +kernel
theorem dX2_floorBelowOne_20 : decode cX2_floorBelowOne 20 = .ok (.iload_n 2, 1) := by decide +kernel
theorem dX2_floorBelowOne_21 : decode cX2_floorBelowOne 21 = .ok (.if_icmp .lt 35, 3) := by decide +kernel
theorem dX2_floorBelowOne_24 : decode cX2_floorBelowOne 24 = .ok (.dload 4, 2) := by decide +kernel
theorem dX2_floorBelowOne_26 : decode cX2_floorBelowOne 26 = .ok (.iload 6, 2) := by decide +kernel
theorem dX2_floorBelowOne_28 : decode cX2_floorBelowOne 28 = .ok (.invokestatic 31, 3) := by decide +kernel
theorem dX2_floorBelowOne_31 : decode cX2_floorBelowOne 31 = .ok (.dmul, 1) := by decide +kernel
theorem dX2_floorBelowOne_32 : decode cX2_floorBelowOne 32 = .ok (.ldc2_w 7, 3) := by decide +kernel
theorem dX2_floorBelowOne_35 : decode cX2_floorBelowOne 35 = .ok (.dcmp .g, 1) := by decide +kernel
theorem dX2_floorBelowOne_36 : decode cX2_floorBelowOne 36 = .ok (.ifCond .ge 20, 3) := by decide +kernel
theorem dX2_floorBelowOne_39 : decode cX2_floorBelowOne 39 = .ok (.dload 4, 2) := by decide +kernel
theorem dX2_floorBelowOne_41 : decode cX2_floorBelowOne 41 = .ok (.iload 6, 2) := by decide +kernel
theorem dX2_floorBelowOne_43 : decode cX2_floorBelowOne 43 = .ok (.invokestatic 31, 3) := by decide +kernel
theorem dX2_floorBelowOne_46 : decode cX2_floorBelowOne 46 = .ok (.dmul, 1) := by decide +kernel
theorem dX2_floorBelowOne_47 : decode cX2_floorBelowOne 47 = .ok (.dstore 4, 2) := by decide +kernel
theorem dX2_floorBelowOne_49 : decode cX2_floorBelowOne 49 = .ok (.iload_n 3, 1) := by decide +kernel
theorem dX2_floorBelowOne_50 : decode cX2_floorBelowOne 50 = .ok (.iconst 1, 1) := by decide +kernel
theorem dX2_floorBelowOne_51 : decode cX2_floorBelowOne 51 = .ok (.iload 6, 2) := by decide +kernel
theorem dX2_floorBelowOne_53 : decode cX2_floorBelowOne 53 = .ok (.ishl, 1) := by decide +kernel
theorem dX2_floorBelowOne_54 : decode cX2_floorBelowOne 54 = .ok (.isub, 1) := by decide +kernel
theorem dX2_floorBelowOne_55 : decode cX2_floorBelowOne 55 = .ok (.istore_n 3, 1) := by decide +kernel
theorem dX2_floorBelowOne_56 : decode cX2_floorBelowOne 56 = .ok (.iinc 6 (-1), 3) := by decide +kernel
theorem dX2_floorBelowOne_59 : decode cX2_floorBelowOne 59 = .ok (.goto (-50), 3) := by decide +kernel
theorem dX2_floorBelowOne_62 : decode cX2_floorBelowOne 62 = .ok (.iload_n 3, 1) := by decide +kernel
theorem dX2_floorBelowOne_63 : decode cX2_floorBelowOne 63 = .ok (.ireturn, 1) := by decide +kernel
set_option maxRecDepth 20000 in
theorem ggX3_widened_X1_ofSize : GoodIn wsX3_widened wsX1_ofSize := goodIn_r _ [11, 12, 13, 14, 15, 16, 17, 18, 19, 20, 21, 22, 23, 24, 25, 26, 27, 28, 29, 30, 31, 32, 33, 34, 35, 36, 37, 38, 39, 40] (by decide +kernel) (by decide +kernel)
set_option maxRecDepth 20000 in
theorem gX3_widened_X1_ofSize : GoodIn wsX3_widened (va_wsS RX3 20 yX1_ofSize wsX1_ofSize) := goodIn_app (goodIn_of _ (by decide +kernel)) ggX3_widened_X1_ofSize
theorem dX3_widened_0 : decode cX3_widened 0 = .ok (.iload_n 0, 1) := by decide +kernel
theorem dX3_widened_1 : decode cX3_widened 1 = .ok (.ifCond .ge 9, 3) := by decide +kernel
theorem dX3_widened_4 : decode cX3_widened 4 = .ok (.ldc2_w 9, 3) := by decide +kernel
theorem dX3_widened_7 : decode cX3_widened 7 = .ok (.goto 4, 3) := by decide +kernel
theorem dX3_widened_10 : decode cX3_widened 10 = .ok (.lconst 0, 1) := by decide +kernel
theorem dX3_widened_11 : decode cX3_widened 11 = .ok (.lstore_n 1, 1) := by decide +kernel
theorem dX3_widened_12 : decode cX3_widened 12 = .ok (.iload_n 0, 1) := by decide +kernel
theorem dX3_widened_13 : decode cX3_widened 13 = .ok (.ldc 13, 2) := by decide +kernel
theorem dX3_widened_15 : decode cX3_widened 15 = .ok (.iand, 1) := by decide +kernel
theorem dX3_widened_16 : decode cX3_widened 16 = .ok (.istore_n 3, 1) := by decide +kernel
theorem dX3_widened_17 : decode cX3_widened 17 = .ok (.iload_n 3, 1) := by decide +kernel
theorem dX3_widened_18 : decode cX3_widened 18 = .ok (.ldc 14, 2) := by decide +kernel
theorem dX3_widened_20 : decode cX3_widened 20 = .ok (.if_icmp .lt 15, 3) := by decide +kernel
theorem dX3_widened_23 : decode cX3_widened 23 = .ok (.lload_n 1, 1) := by decide +kernel
theorem dX3_widened_24 : decode cX3_widened 24 = .ok (.ldc2_w 15, 3) := by decide +kernel
theorem dX3_widened_27 : decode cX3_widened 27 = .ok (.iload_n 3, 1) := by decide +kernel
theorem dX3_widened_28 : decode cX3_widened 28 = .ok (.ldc 14, 2) := by decide +kernel
theorem dX3_widened_30 : decode cX3_widened 30 = .ok (.isub, 1) := by decide +kernel
theorem dX3_widened_31 : decode cX3_widened 31 = .ok (.i2l, 1) := by decide +kernel
theorem dX3_widened_32 : decode cX3_widened 32 = .ok (.ladd, 1) := by decide +kernel
theorem dX3_widened_33 : decode cX3_widened 33 = .ok (.lor, 1) := by decide +kernel
theorem dX3_widened_34 : decode cX3_widened 34 = .ok (.lreturn, 1) := by decide +kernel
theorem dX3_widened_35 : decode cX3_widened 35 = .ok (.iload_n 3, 1) := by decide +kernel
theorem dX3_widened_36 : decode cX3_widened 36 = .ok (.ldc 17, 2) := by decide +kernel
theorem dX3_widened_38 : decode cX3_widened 38 = .ok (.if_icmp .ge 15, 3) := by decide +kernel
theorem dX3_widened_41 : decode cX3_widened 41 = .ok (.lload_n 1, 1) := by decide +kernel
theorem dX3_widened_42 : decode cX3_widened 42 = .ok (.iload_n 3, 1) := by decide +kernel
theorem dX3_widened_43 : decode cX3_widened 43 = .ok (.i2d, 1) := by decide +kernel
theorem dX3_widened_44 : decode cX3_widened 44 = .ok (.ldc2_w 18, 3) := by decide +kernel
theorem dX3_widened_47 : decode cX3_widened 47 = .ok (.dmul, 1) := by decide +kernel
theorem dX3_widened_48 : decode cX3_widened 48 = .ok (.invokestatic 20, 3) := by decide +kernel
theorem dX3_widened_51 : decode cX3_widened 51 = .ok (.lor, 1) := by decide +kernel
theorem dX3_widened_52 : decode cX3_widened 52 = .ok (.lreturn, 1) := by decide +kernel
theorem dX3_widened_53 : decode cX3_widened 53 = .ok (.lload_n 1, 1) := by decide +kernel
theorem dX3_widened_54 : decode cX3_widened 54 = .ok (.iload_n 3, 1) := by decide +kernel
theorem dX3_widened_55 : decode cX3_widened 55 = .ok (.i2l, 1) := by decide +kernel
theorem dX3_widened_56 : decode cX3_widened 56 = .ok (.bipush 29, 2) := by decide +kernel
theorem dX3_widened_58 : decode cX3_widened 58 = .ok (.lshl, 1) := by decide +kernel
theorem dX3_widened_59 : decode cX3_widened 59 = .ok (.ldc2_w 24, 3) := by decide +kernel
theorem dX3_widened_62 : decode cX3_widened 62 = .ok (.ladd, 1) := by decide +kernel
theorem dX3_widened_63 : decode cX3_widened 63 = .ok (.lor, 1) := by decide +kernel
theorem dX3_widened_64 : decode cX3_widened 64 = .ok (.lreturn, 1) := by decide +kernel
set_option maxRecDepth 20000 in
theorem ggX3_narrowed_X1_valueOfSize : GoodIn wsX3_narrowed wsX1_valueOfSize := goodIn_r _ [9, 10, 11, 12, 13, 14, 8, 15, 16, 17, 18, 19, 20, 21, 22, 23, 24, 25, 26, 27, 28, 29, 30, 31, 32, 33, 34, 35, 36, 37] (by decide +kernel) (by decide +kernel)
set_option maxRecDepth 20000 in
theorem gX3_narrowed_X1_valueOfSize : GoodIn wsX3_narrowed (va_wsS RX3 31 yX1_valueOfSize wsX1_valueOfSize) := goodIn_app (goodIn_of _ (by decide +kernel)) ggX3_narrowed_X1_valueOfSize
theorem dX3_narrowed_0 : decode cX3_narrowed 0 = .ok (.lload_n 0, 1) := by decide +kernel
theorem dX3_narrowed_1 : decode cX3_narrowed 1 = .ok (.lconst 0, 1) := by decide +kernel
theorem dX3_narrowed_2 : decode cX3_narrowed 2 = .ok (.lcmp, 1) := by decide +kernel
theorem dX3_narrowed_3 : decode cX3_narrowed 3 = .ok (.ifCond .ge 8, 3) := by decide +kernel
theorem dX3_narrowed_6 : decode cX3_narrowed 6 = .ok (.ldc 26, 2) := by decide +kernel
theorem dX3_narrowed_8 : decode cX3_narrowed 8 = .ok (.goto 4, 3) := by decide +kernel
theorem dX3_narrowed_11 : decode cX3_narrowed 11 = .ok (.iconst 0, 1) := by decide +kernel
theorem dX3_narrowed_12 : decode cX3_narrowed 12 = .ok (.istore_n 2, 1) := by decide +kernel
theorem dX3_narrowed_13 : decode cX3_narrowed 13 = .ok (.lload_n 0, 1) := by decide +kernel
theorem dX3_narrowed_14 : decode cX3_narrowed 14 = .ok (.ldc2_w 27, 3) := by decide +kernel
theorem dX3_narrowed_17 : decode cX3_narrowed 17 = .ok (.land, 1) := by decide +kernel
theorem dX3_narrowed_18 : decode cX3_narrowed 18 = .ok (.lstore_n 3, 1) := by decide +kernel
theorem dX3_narrowed_19 : decode cX3_narrowed 19 = .ok (.lload_n 3, 1) := by decide +kernel
theorem dX3_narrowed_20 : decode cX3_narrowed 20 = .ok (.ldc2_w 29, 3) := by decide +kernel
theorem dX3_narrowed_23 : decode cX3_narrowed 23 = .ok (.lcmp, 1) := by decide +kernel
theorem dX3_narrowed_24 : decode cX3_narrowed 24 = .ok (.ifCond .ge 15, 3) := by decide +kernel
theorem dX3_narrowed_27 : decode cX3_narrowed 27 = .ok (.iload_n 2, 1) := by decide +kernel
theorem dX3_narrowed_28 : decode cX3_narrowed 28 = .ok (.lload_n 3, 1) := by decide +kernel
theorem dX3_narrowed_29 : decode cX3_narrowed 29 = .ok (.invokestatic 31, 3) := by decide +kernel
theorem dX3_narrowed_32 : decode cX3_narrowed 32 = .ok (.ldc2_w 35, 3) := by decide +kernel
theorem dX3_narrowed_35 : decode cX3_narrowed 35 = .ok (.dmul, 1) := by decide +kernel
theorem dX3_narrowed_36 : decode cX3_narrowed 36 = .ok (.d2i, 1) := by decide +kernel
theorem dX3_narrowed_37 : decode cX3_narrowed 37 = .ok (.ior, 1) := by decide +kernel
theorem dX3_narrowed_38 : decode cX3_narrowed 38 = .ok (.ireturn, 1) := by decide +kernel
theorem dX3_narrowed_39 : decode cX3_narrowed 39 = .ok (.iload_n 2, 1) := by decide +kernel
theorem dX3_narrowed_40 : decode cX3_narrowed 40 = .ok (.lload_n 3, 1) := by decide +kernel
theorem dX3_narrowed_41 : decode cX3_narrowed 41 = .ok (.ldc2_w 24, 3) := by decide +kernel
theorem dX3_narrowed_44 : decode cX3_narrowed 44 = .ok (.lsub, 1) := by decide +kernel
theorem dX3_narrowed_45 : decode cX3_narrowed 45 = .ok (.bipush 29, 2) := by decide +kernel
theorem dX3_narrowed_47 : decode cX3_narrowed 47 = .ok (.lushr, 1) := by decide +kernel
theorem dX3_narrowed_48 : decode cX3_narrowed 48 = .ok (.l2i, 1) := by decide +kernel
theorem dX3_narrowed_49 : decode cX3_narrowed 49 = .ok (.ior, 1) := by decide +kernel
theorem dX3_narrowed_50 : decode cX3_narrowed 50 = .ok (.ireturn, 1) := by decide +kernel
theorem dX4_init_0 : decode cX4_init 0 = .ok (.aload_n 0, 1) := by decide +kernel
theorem dX4_init_1 : decode cX4_init 1 = .ok (.invokespecial 1, 3) := by decide +kernel
theorem dX4_init_4 : decode cX4_init 4 = .ok (.aload_n 0, 1) := by decide +kernel
theorem dX4_init_5 : decode cX4_init 5 = .ok (.bipush 16, 2) := by decide +kernel
theorem dX4_init_7 : decode cX4_init 7 = .ok (.newarray .int, 2) := by decide +kernel
theorem dX4_init_9 : decode cX4_init 9 = .ok (.putfield 9, 3) := by decide +kernel
theorem dX4_init_12 : decode cX4_init 12 = .ok (.aload_n 0, 1) := by decide +kernel
theorem dX4_init_13 : decode cX4_init 13 = .ok (.bipush 16, 2) := by decide +kernel
theorem dX4_init_15 : decode cX4_init 15 = .ok (.newarray .long, 2) := by decide +kernel
theorem dX4_init_17 : decode cX4_init 17 = .ok (.putfield 13, 3) := by decide +kernel
theorem dX4_init_20 : decode cX4_init 20 = .ok (.aload_n 0, 1) := by decide +kernel
theorem dX4_init_21 : decode cX4_init 21 = .ok (.bipush 16, 2) := by decide +kernel
theorem dX4_init_23 : decode cX4_init 23 = .ok (.newarray .long, 2) := by decide +kernel
theorem dX4_init_25 : decode cX4_init 25 = .ok (.putfield 17, 3) := by decide +kernel
theorem dX4_init_28 : decode cX4_init 28 = .ok (.return_, 1) := by decide +kernel
theorem dX4_keep_0 : decode cX4_keep 0 = .ok (.aload_n 0, 1) := by decide +kernel
theorem dX4_keep_1 : decode cX4_keep 1 = .ok (.getfield 9, 3) := by decide +kernel
theorem dX4_keep_4 : decode cX4_keep 4 = .ok (.aload_n 0, 1) := by decide +kernel
theorem dX4_keep_5 : decode cX4_keep 5 = .ok (.getfield 20, 3) := by decide +kernel
theorem dX4_keep_8 : decode cX4_keep 8 = .ok (.iload_n 1, 1) := by decide +kernel
theorem dX4_keep_9 : decode cX4_keep 9 = .ok (.iastore, 1) := by decide +kernel
theorem dX4_keep_10 : decode cX4_keep 10 = .ok (.aload_n 0, 1) := by decide +kernel
theorem dX4_keep_11 : decode cX4_keep 11 = .ok (.getfield 13, 3) := by decide +kernel
theorem dX4_keep_14 : decode cX4_keep 14 = .ok (.aload_n 0, 1) := by decide +kernel
theorem dX4_keep_15 : decode cX4_keep 15 = .ok (.getfield 20, 3) := by decide +kernel
theorem dX4_keep_18 : decode cX4_keep 18 = .ok (.lload_n 2, 1) := by decide +kernel
theorem dX4_keep_19 : decode cX4_keep 19 = .ok (.lastore, 1) := by decide +kernel
theorem dX4_keep_20 : decode cX4_keep 20 = .ok (.aload_n 0, 1) := by decide +kernel
theorem dX4_keep_21 : decode cX4_keep 21 = .ok (.getfield 17, 3) := by decide +kernel
theorem dX4_keep_24 : decode cX4_keep 24 = .ok (.aload_n 0, 1) := by decide +kernel
theorem dX4_keep_25 : decode cX4_keep 25 = .ok (.getfield 20, 3) := by decide +kernel
theorem dX4_keep_28 : decode cX4_keep 28 = .ok (.lload 4, 2) := by decide +kernel
theorem dX4_keep_30 : decode cX4_keep 30 = .ok (.lastore, 1) := by decide +kernel
theorem dX4_keep_31 : decode cX4_keep 31 = .ok (.aload_n 0, 1) := by decide +kernel
theorem dX4_keep_32 : decode cX4_keep 32 = .ok (.aload_n 0, 1) := by decide +kernel
theorem dX4_keep_33 : decode cX4_keep 33 = .ok (.getfield 20, 3) := by decide +kernel
theorem dX4_keep_36 : decode cX4_keep 36 = .ok (.iconst 1, 1) := by decide +kernel
theorem dX4_keep_37 : decode cX4_keep 37 = .ok (.iadd, 1) := by decide +kernel
theorem dX4_keep_38 : decode cX4_keep 38 = .ok (.bipush 16, 2) := by decide +kernel
theorem dX4_keep_40 : decode cX4_keep 40 = .ok (.irem, 1) := by decide +kernel
theorem dX4_keep_41 : decode cX4_keep 41 = .ok (.putfield 20, 3) := by decide +kernel
theorem dX4_keep_44 : decode cX4_keep 44 = .ok (.aload_n 0, 1) := by decide +kernel
theorem dX4_keep_45 : decode cX4_keep 45 = .ok (.getfield 24, 3) := by decide +kernel
theorem dX4_keep_48 : decode cX4_keep 48 = .ok (.bipush 16, 2) := by decide +kernel
theorem dX4_keep_50 : decode cX4_keep 50 = .ok (.if_icmp .ge 13, 3) := by decide +kernel
theorem dX4_keep_53 : decode cX4_keep 53 = .ok (.aload_n 0, 1) := by decide +kernel
theorem dX4_keep_54 : decode cX4_keep 54 = .ok (.dup, 1) := by decide +kernel
theorem dX4_keep_55 : decode cX4_keep 55 = .ok (.getfield 24, 3) := by decide +kernel
theorem dX4_keep_58 : decode cX4_keep 58 = .ok (.iconst 1, 1) := by decide +kernel
theorem dX4_keep_59 : decode cX4_keep 59 = .ok (.iadd, 1) := by decide +kernel
theorem dX4_keep_60 : decode cX4_keep 60 = .ok (.putfield 24, 3) := by decide +kernel
theorem dX4_keep_63 : decode cX4_keep 63 = .ok (.return_, 1) := by decide +kernel
theorem dX4_takeLatest_0 : decode cX4_takeLatest 0 = .ok (.aload_n 0, 1) := by decide +kernel
theorem dX4_takeLatest_1 : decode cX4_takeLatest 1 = .ok (.aload_n 0, 1) := by decide +kernel
theorem dX4_takeLatest_2 : decode cX4_takeLatest 2 = .ok (.getfield 20, 3) := by decide +kernel
theorem dX4_takeLatest_5 : decode cX4_takeLatest 5 = .ok (.bipush 16, 2) := by decide +kernel
theorem dX4_takeLatest_7 : decode cX4_takeLatest 7 = .ok (.iadd, 1) := by decide +kernel
theorem dX4_takeLatest_8 : decode cX4_takeLatest 8 = .ok (.iconst 1, 1) := by decide +kernel
theorem dX4_takeLatest_9 : decode cX4_takeLatest 9 = .ok (.isub, 1) := by decide +kernel
theorem dX4_takeLatest_10 : decode cX4_takeLatest 10 = .ok (.bipush 16, 2) := by decide +kernel
theorem dX4_takeLatest_12 : decode cX4_takeLatest 12 = .ok (.irem, 1) := by decide +kernel
theorem dX4_takeLatest_13 : decode cX4_takeLatest 13 = .ok (.putfield 20, 3) := by decide +kernel
theorem dX4_takeLatest_16 : decode cX4_takeLatest 16 = .ok (.aload_n 0, 1) := by decide +kernel
theorem dX4_takeLatest_17 : decode cX4_takeLatest 17 = .ok (.dup, 1) := by decide +kernel
theorem dX4_takeLatest_18 : decode cX4_takeLatest 18 = .ok (.getfield 24, 3) := by decide +kernel
theorem dX4_takeLatest_21 : decode cX4_takeLatest 21 = .ok (.iconst 1, 1) := by decide +kernel
theorem dX4_takeLatest_22 : decode cX4_takeLatest 22 = .ok (.isub, 1) := by decide +kernel
theorem dX4_takeLatest_23 : decode cX4_takeLatest 23 = .ok (.putfield 24, 3) := by decide +kernel
theorem dX4_takeLatest_26 : decode cX4_takeLatest 26 = .ok (.aload_n 0, 1) := by decide +kernel
theorem dX4_takeLatest_27 : decode cX4_takeLatest 27 = .ok (.getfield 20, 3) := by decide +kernel
theorem dX4_takeLatest_30 : decode cX4_takeLatest 30 = .ok (.ireturn, 1) := by decide +kernel
theorem dX4_clear_0 : decode cX4_clear 0 = .ok (.aload_n 0, 1) := by decide +kernel
theorem dX4_clear_1 : decode cX4_clear 1 = .ok (.iconst 0, 1) := by decide +kernel
theorem dX4_clear_2 : decode cX4_clear 2 = .ok (.putfield 24, 3) := by decide +kernel
theorem dX4_clear_5 : decode cX4_clear 5 = .ok (.return_, 1) := by decide +kernel
theorem dX5_isWay_0 : decode cX5_isWay 0 = .ok (.iload_n 0, 1) := by decide +kernel
theorem dX5_isWay_1 : decode cX5_isWay 1 = .ok (.ifCond .lt 12, 3) := by decide +kernel
theorem dX5_isWay_4 : decode cX5_isWay 4 = .ok (.iload_n 0, 1) := by decide +kernel
theorem dX5_isWay_5 : decode cX5_isWay 5 = .ok (.iconst 3, 1) := by decide +kernel
theorem dX5_isWay_6 : decode cX5_isWay 6 = .ok (.if_icmp .gt 7, 3) := by decide +kernel
theorem dX5_isWay_9 : decode cX5_isWay 9 = .ok (.iconst 1, 1) := by decide +kernel
theorem dX5_isWay_10 : decode cX5_isWay 10 = .ok (.goto 4, 3) := by decide +kernel
theorem dX5_isWay_13 : decode cX5_isWay 13 = .ok (.iconst 0, 1) := by decide +kernel
theorem dX5_isWay_14 : decode cX5_isWay 14 = .ok (.ireturn, 1) := by decide +kernel
set_option maxRecDepth 20000 in
theorem ggX5_whole_X1_valueOfSize : GoodIn wsX5_whole wsX1_valueOfSize := goodIn_r _ [7, 8, 9, 10, 11, 12, 6, 13, 14, 15, 16, 17, 18, 19, 20, 21, 22, 23, 24, 25, 26, 27, 28, 29, 30, 31, 32, 33, 34, 35] (by decide +kernel) (by decide +kernel)
set_option maxRecDepth 20000 in
theorem gX5_whole_X1_valueOfSize : GoodIn wsX5_whole (va_wsS RX5 15 yX1_valueOfSize wsX1_valueOfSize) := goodIn_app (goodIn_of _ (by decide +kernel)) ggX5_whole_X1_valueOfSize
set_option maxRecDepth 20000 in
theorem ggX5_whole_X5_growsInSize : GoodIn wsX5_whole wsX5_growsInSize := goodIn_r _ [39, 40] (by decide +kernel) (by decide +kernel)
set_option maxRecDepth 20000 in
theorem gX5_whole_X5_growsInSize : GoodIn wsX5_whole (va_wsS RX5 21 yX5_growsInSize wsX5_growsInSize) := goodIn_app (goodIn_of _ (by decide +kernel)) ggX5_whole_X5_growsInSize
set_option maxRecDepth 20000 in
theorem ggX5_whole_X1_ofSize : GoodIn wsX5_whole wsX1_ofSize := goodIn_r _ [43, 14, 44, 15, 16, 17, 18, 19, 45, 46, 47, 23, 24, 25, 26, 27, 28, 29, 30, 31, 32, 33, 34, 35, 48, 49, 50, 20, 21, 22] (by decide +kernel) (by decide +kernel)
set_option maxRecDepth 20000 in
theorem gX5_whole_X1_ofSize : GoodIn wsX5_whole (va_wsS RX5 25 yX1_ofSize wsX1_ofSize) := goodIn_app (goodIn_of _ (by decide +kernel)) ggX5_whole_X1_ofSize
set_option maxRecDepth 20000 in
theorem ggX5_whole_X1_withSignOf : GoodIn wsX5_whole wsX1_withSignOf := goodIn_r _ [53, 8, 54] (by decide +kernel) (by decide +kernel)
set_option maxRecDepth 20000 in
theorem gX5_whole_X1_withSignOf : GoodIn wsX5_whole (va_wsS RX5 29 yX1_withSignOf wsX1_withSignOf) := goodIn_app (goodIn_of _ (by decide +kernel)) ggX5_whole_X1_withSignOf
theorem dX5_whole_0 : decode cX5_whole 0 = .ok (.lload_n 0, 1) := by decide +kernel
theorem dX5_whole_1 : decode cX5_whole 1 = .ok (.ldc2_w 11, 3) := by decide +kernel
theorem dX5_whole_4 : decode cX5_whole 4 = .ok (.land, 1) := by decide +kernel
theorem dX5_whole_5 : decode cX5_whole 5 = .ok (.ldc2_w 13, 3) := by decide +kernel
theorem dX5_whole_8 : decode cX5_whole 8 = .ok (.lcmp, 1) := by decide +kernel
theorem dX5_whole_9 : decode cX5_whole 9 = .ok (.ifCond .lt 5, 3) := by decide +kernel
theorem dX5_whole_12 : decode cX5_whole 12 = .ok (.lload_n 0, 1) := by decide +kernel
theorem dX5_whole_13 : decode cX5_whole 13 = .ok (.lreturn, 1) := by decide +kernel
theorem dX5_whole_14 : decode cX5_whole 14 = .ok (.lload_n 0, 1) := by decide +kernel
theorem dX5_whole_15 : decode cX5_whole 15 = .ok (.invokestatic 15, 3) := by decide +kernel
theorem dX5_whole_18 : decode cX5_whole 18 = .ok (.dstore_n 3, 1) := by decide +kernel
theorem dX5_whole_19 : decode cX5_whole 19 = .ok (.dload_n 3, 1) := by decide +kernel
theorem dX5_whole_20 : decode cX5_whole 20 = .ok (.d2l, 1) := by decide +kernel
theorem dX5_whole_21 : decode cX5_whole 21 = .ok (.lstore 5, 2) := by decide +kernel
theorem dX5_whole_23 : decode cX5_whole 23 = .ok (.dload_n 3, 1) := by decide +kernel
theorem dX5_whole_24 : decode cX5_whole 24 = .ok (.lload 5, 2) := by decide +kernel
theorem dX5_whole_26 : decode cX5_whole 26 = .ok (.l2d, 1) := by decide +kernel
theorem dX5_whole_27 : decode cX5_whole 27 = .ok (.dsub, 1) := by decide +kernel
theorem dX5_whole_28 : decode cX5_whole 28 = .ok (.lload 5, 2) := by decide +kernel
theorem dX5_whole_30 : decode cX5_whole 30 = .ok (.ldc2_w 19, 3) := by decide +kernel
theorem dX5_whole_33 : decode cX5_whole 33 = .ok (.lrem, 1) := by decide +kernel
theorem dX5_whole_34 : decode cX5_whole 34 = .ok (.lconst 0, 1) := by decide +kernel
theorem dX5_whole_35 : decode cX5_whole 35 = .ok (.lcmp, 1) := by decide +kernel
theorem dX5_whole_36 : decode cX5_whole 36 = .ok (.ifCond .eq 7, 3) := by decide +kernel
theorem dX5_whole_39 : decode cX5_whole 39 = .ok (.iconst 1, 1) := by decide +kernel
theorem dX5_whole_40 : decode cX5_whole 40 = .ok (.goto 4, 3) := by decide +kernel
theorem dX5_whole_43 : decode cX5_whole 43 = .ok (.iconst 0, 1) := by decide +kernel
theorem dX5_whole_44 : decode cX5_whole 44 = .ok (.lload_n 0, 1) := by decide +kernel
theorem dX5_whole_45 : decode cX5_whole 45 = .ok (.lconst 0, 1) := by decide +kernel
theorem dX5_whole_46 : decode cX5_whole 46 = .ok (.lcmp, 1) := by decide +kernel
theorem dX5_whole_47 : decode cX5_whole 47 = .ok (.ifCond .ge 7, 3) := by decide +kernel
theorem dX5_whole_50 : decode cX5_whole 50 = .ok (.iconst 1, 1) := by decide +kernel
theorem dX5_whole_51 : decode cX5_whole 51 = .ok (.goto 4, 3) := by decide +kernel
theorem dX5_whole_54 : decode cX5_whole 54 = .ok (.iconst 0, 1) := by decide +kernel
theorem dX5_whole_55 : decode cX5_whole 55 = .ok (.iload_n 2, 1) := by decide +kernel
theorem dX5_whole_56 : decode cX5_whole 56 = .ok (.invokestatic 21, 3) := by decide +kernel
theorem dX5_whole_59 : decode cX5_whole 59 = .ok (.istore 7, 2) := by decide +kernel
theorem dX5_whole_61 : decode cX5_whole 61 = .ok (.iload 7, 2) := by decide +kernel
theorem dX5_whole_63 : decode cX5_whole 63 = .ok (.ifCond .eq 11, 3) := by decide +kernel
theorem dX5_whole_66 : decode cX5_whole 66 = .ok (.lload 5, 2) := by decide +kernel
theorem dX5_whole_68 : decode cX5_whole 68 = .ok (.lconst 1, 1) := by decide +kernel
theorem dX5_whole_69 : decode cX5_whole 69 = .ok (.ladd, 1) := by decide +kernel
theorem dX5_whole_70 : decode cX5_whole 70 = .ok (.l2d, 1) := by decide +kernel
theorem dX5_whole_71 : decode cX5_whole 71 = .ok (.goto 6, 3) := by decide +kernel
theorem dX5_whole_74 : decode cX5_whole 74 = .ok (.lload 5, 2) := by decide +kernel
theorem dX5_whole_76 : decode cX5_whole 76 = .ok (.l2d, 1) := by decide +kernel
theorem dX5_whole_77 : decode cX5_whole 77 = .ok (.invokestatic 25, 3) := by decide +kernel
theorem dX5_whole_80 : decode cX5_whole 80 = .ok (.lload_n 0, 1) := by decide +kernel
theorem dX5_whole_81 : decode cX5_whole 81 = .ok (.invokestatic 29, 3) := by decide +kernel
theorem dX5_whole_84 : decode cX5_whole 84 = .ok (.lreturn, 1) := by decide +kernel
theorem dX5_growsInSize_0 : decode cX5_growsInSize 0 = .ok (.iload 4, 2) := by decide +kernel
theorem dX5_growsInSize_2 : decode cX5_growsInSize 2 = .ok (.tableswitch 84 0 2 #[26, 42, 58], 26) := by decide +kernel
theorem dX5_growsInSize_28 : decode cX5_growsInSize 28 = .ok (.iload_n 3, 1) := by decide +kernel
theorem dX5_growsInSize_29 : decode cX5_growsInSize 29 = .ok (.ifCond .eq 13, 3) := by decide +kernel
theorem dX5_growsInSize_32 : decode cX5_growsInSize 32 = .ok (.dload_n 0, 1) := by decide +kernel
theorem dX5_growsInSize_33 : decode cX5_growsInSize 33 = .ok (.dconst 0, 1) := by decide +kernel
theorem dX5_growsInSize_34 : decode cX5_growsInSize 34 = .ok (.dcmp .l, 1) := by decide +kernel
theorem dX5_growsInSize_35 : decode cX5_growsInSize 35 = .ok (.ifCond .le 7, 3) := by decide +kernel
theorem dX5_growsInSize_38 : decode cX5_growsInSize 38 = .ok (.iconst 1, 1) := by decide +kernel
theorem dX5_growsInSize_39 : decode cX5_growsInSize 39 = .ok (.goto 4, 3) := by decide +kernel
theorem dX5_growsInSize_42 : decode cX5_growsInSize 42 = .ok (.iconst 0, 1) := by decide +kernel
theorem dX5_growsInSize_43 : decode cX5_growsInSize 43 = .ok (.ireturn, 1) := by decide +kernel
theorem dX5_growsInSize_44 : decode cX5_growsInSize 44 = .ok (.iload_n 3, 1) := by decide +kernel
theorem dX5_growsInSize_45 : decode cX5_growsInSize 45 = .ok (.ifCond .ne 13, 3) := by decide +kernel
theorem dX5_growsInSize_48 : decode cX5_growsInSize 48 = .ok (.dload_n 0, 1) := by decide +kernel
theorem dX5_growsInSize_49 : decode cX5_growsInSize 49 = .ok (.dconst 0, 1) := by decide +kernel
theorem dX5_growsInSize_50 : decode cX5_growsInSize 50 = .ok (.dcmp .l, 1) := by decide +kernel
theorem dX5_growsInSize_51 : decode cX5_growsInSize 51 = .ok (.ifCond .le 7, 3) := by decide +kernel
theorem dX5_growsInSize_54 : decode cX5_growsInSize 54 = .ok (.iconst 1, 1) := by decide +kernel
theorem dX5_growsInSize_55 : decode cX5_growsInSize 55 = .ok (.goto 4, 3) := by decide +kernel
theorem dX5_growsInSize_58 : decode cX5_growsInSize 58 = .ok (.iconst 0, 1) := by decide +kernel
theorem dX5_growsInSize_59 : decode cX5_growsInSize 59 = .ok (.ireturn, 1) := by decide +kernel
theorem dX5_growsInSize_60 : decode cX5_growsInSize 60 = .ok (.dload_n 0, 1) := by decide +kernel
theorem dX5_growsInSize_61 : decode cX5_growsInSize 61 = .ok (.ldc2_w 33, 3) := by decide +kernel
theorem dX5_growsInSize_64 : decode cX5_growsInSize 64 = .ok (.dcmp .l, 1) := by decide +kernel
theorem dX5_growsInSize_65 : decode cX5_growsInSize 65 = .ok (.ifCond .gt 15, 3) := by decide +kernel
theorem dX5_growsInSize_68 : decode cX5_growsInSize 68 = .ok (.dload_n 0, 1) := by decide +kernel
theorem dX5_growsInSize_69 : decode cX5_growsInSize 69 = .ok (.ldc2_w 33, 3) := by decide +kernel
theorem dX5_growsInSize_72 : decode cX5_growsInSize 72 = .ok (.dcmp .l, 1) := by decide +kernel
theorem dX5_growsInSize_73 : decode cX5_growsInSize 73 = .ok (.ifCond .ne 11, 3) := by decide +kernel
theorem dX5_growsInSize_76 : decode cX5_growsInSize 76 = .ok (.iload_n 2, 1) := by decide +kernel
theorem dX5_growsInSize_77 : decode cX5_growsInSize 77 = .ok (.ifCond .eq 7, 3) := by decide +kernel
theorem dX5_growsInSize_80 : decode cX5_growsInSize 80 = .ok (.iconst 1, 1) := by decide +kernel
theorem dX5_growsInSize_81 : decode cX5_growsInSize 81 = .ok (.goto 4, 3) := by decide +kernel
theorem dX5_growsInSize_84 : decode cX5_growsInSize 84 = .ok (.iconst 0, 1) := by decide +kernel
theorem dX5_growsInSize_85 : decode cX5_growsInSize 85 = .ok (.ireturn, 1) := by decide +kernel
theorem dX5_growsInSize_86 : decode cX5_growsInSize 86 = .ok (.iconst 0, 1) := by decide +kernel
theorem dX5_growsInSize_87 : decode cX5_growsInSize 87 = .ok (.ireturn, 1) := by decide +kernel
set_option maxRecDepth 20000 in
theorem ggX6_init_X0_init : GoodIn wsX6_init wsX0_init := goodIn_r _ [18, 19, 2, 3, 13, 20, 21, 22, 23, 24, 25, 26, 27, 35, 36, 37, 38, 39] (by decide +kernel) (by decide +kernel)
set_option maxRecDepth 20000 in
theorem gX6_init_X0_init : GoodIn wsX6_init (wsX0_init) := ggX6_init_X0_init
set_option maxRecDepth 20000 in
theorem ggX6_init_X4_init : GoodIn wsX6_init wsX4_init := goodIn_r _ [29, 30, 2, 3, 31, 32, 13, 33, 34, 47, 48, 49, 50, 51] (by decide +kernel) (by decide +kernel)
set_option maxRecDepth 20000 in
theorem gX6_init_X4_init_n23 : GoodIn wsX6_init (wsX4_init) := ggX6_init_X4_init
theorem dX6_init_0 : decode cX6_init 0 = .ok (.aload_n 0, 1) := by decide +kernel
theorem dX6_init_1 : decode cX6_init 1 = .ok (.invokespecial 1, 3) := by decide +kernel
theorem dX6_init_4 : decode cX6_init 4 = .ok (.aload_n 0, 1) := by decide +kernel
theorem dX6_init_5 : decode cX6_init 5 = .ok (.new 7, 3) := by decide +kernel
theorem dX6_init_8 : decode cX6_init 8 = .ok (.dup, 1) := by decide +kernel
theorem dX6_init_9 : decode cX6_init 9 = .ok (.iconst 0, 1) := by decide +kernel
theorem dX6_init_10 : decode cX6_init 10 = .ok (.invokespecial 9, 3) := by decide +kernel
theorem dX6_init_13 : decode cX6_init 13 = .ok (.putfield 12, 3) := by decide +kernel
theorem dX6_init_16 : decode cX6_init 16 = .ok (.aload_n 0, 1) := by decide +kernel
theorem dX6_init_17 : decode cX6_init 17 = .ok (.new 7, 3) := by decide +kernel
theorem dX6_init_20 : decode cX6_init 20 = .ok (.dup, 1) := by decide +kernel
theorem dX6_init_21 : decode cX6_init 21 = .ok (.iconst 1, 1) := by decide +kernel
theorem dX6_init_22 : decode cX6_init 22 = .ok (.invokespecial 9, 3) := by decide +kernel
theorem dX6_init_25 : decode cX6_init 25 = .ok (.putfield 18, 3) := by decide +kernel
theorem dX6_init_28 : decode cX6_init 28 = .ok (.aload_n 0, 1) := by decide +kernel
theorem dX6_init_29 : decode cX6_init 29 = .ok (.new 21, 3) := by decide +kernel
theorem dX6_init_32 : decode cX6_init 32 = .ok (.dup, 1) := by decide +kernel
theorem dX6_init_33 : decode cX6_init 33 = .ok (.invokespecial 23, 3) := by decide +kernel
theorem dX6_init_36 : decode cX6_init 36 = .ok (.putfield 24, 3) := by decide +kernel
theorem dX6_init_39 : decode cX6_init 39 = .ok (.aload_n 0, 1) := by decide +kernel
theorem dX6_init_40 : decode cX6_init 40 = .ok (.iconst 4, 1) := by decide +kernel
theorem dX6_init_41 : decode cX6_init 41 = .ok (.newarray .long, 2) := by decide +kernel
theorem dX6_init_43 : decode cX6_init 43 = .ok (.putfield 28, 3) := by decide +kernel
theorem dX6_init_46 : decode cX6_init 46 = .ok (.iconst 0, 1) := by decide +kernel
theorem dX6_init_47 : decode cX6_init 47 = .ok (.istore_n 1, 1) := by decide +kernel
theorem dX6_init_48 : decode cX6_init 48 = .ok (.iload_n 1, 1) := by decide +kernel
theorem dX6_init_49 : decode cX6_init 49 = .ok (.iconst 4, 1) := by decide +kernel
theorem dX6_init_50 : decode cX6_init 50 = .ok (.if_icmp .ge 18, 3) := by decide +kernel
theorem dX6_init_53 : decode cX6_init 53 = .ok (.aload_n 0, 1) := by decide +kernel
theorem dX6_init_54 : decode cX6_init 54 = .ok (.getfield 28, 3) := by decide +kernel
theorem dX6_init_57 : decode cX6_init 57 = .ok (.iload_n 1, 1) := by decide +kernel
theorem dX6_init_58 : decode cX6_init 58 = .ok (.ldc2_w 34, 3) := by decide +kernel
theorem dX6_init_61 : decode cX6_init 61 = .ok (.lastore, 1) := by decide +kernel
theorem dX6_init_62 : decode cX6_init 62 = .ok (.iinc 1 1, 3) := by decide +kernel
theorem dX6_init_65 : decode cX6_init 65 = .ok (.goto (-17), 3) := by decide +kernel
theorem dX6_init_68 : decode cX6_init 68 = .ok (.return_, 1) := by decide +kernel
set_option maxRecDepth 20000 in
theorem ggX6_place_X3_widened : GoodIn wsX6_place wsX3_widened := goodIn_r _ [4, 5, 6, 7, 8, 9, 10, 11, 12, 13, 14, 15, 16, 17, 18, 19, 20, 21, 22, 23, 24, 25, 26, 27, 28, 29, 30, 31, 32, 33, 34, 35, 36, 37, 38, 39, 40, 41, 42, 43, 44] (by decide +kernel) (by decide +kernel)
set_option maxRecDepth 20000 in
theorem gX6_place_X3_widened : GoodIn wsX6_place (va_wsS RX6 36 yX3_widened wsX3_widened) := goodIn_app (goodIn_of _ (by decide +kernel)) ggX6_place_X3_widened
set_option maxRecDepth 20000 in
theorem ggX6_place_X6_isPoint : GoodIn wsX6_place wsX6_isPoint := goodIn_r _ [48] (by decide +kernel) (by decide +kernel)
set_option maxRecDepth 20000 in
theorem gX6_place_X6_isPoint : GoodIn wsX6_place (va_wsS RX6 42 yX6_isPoint wsX6_isPoint) := goodIn_app (goodIn_of _ (by decide +kernel)) ggX6_place_X6_isPoint
set_option maxRecDepth 20000 in
theorem ggX6_place_X6_refuse : GoodIn wsX6_place wsX6_refuse := goodIn_r _ [52, 53, 104, 105, 106, 107, 108, 109, 110] (by decide +kernel) (by decide +kernel)
set_option maxRecDepth 20000 in
theorem gX6_place_X6_refuse : GoodIn wsX6_place (wsV RX6 46 RX6 yX6_refuse wsX6_refuse) := goodIn_app (goodIn_of _ (by decide +kernel)) ggX6_place_X6_refuse
set_option maxRecDepth 20000 in
theorem ggX6_place_X1_isNone : GoodIn wsX6_place wsX1_isNone := goodIn_r _ [56, 57, 16] (by decide +kernel) (by decide +kernel)
set_option maxRecDepth 20000 in
theorem gX6_place_X1_isNone : GoodIn wsX6_place (va_wsS RX6 50 yX1_isNone wsX1_isNone) := goodIn_app (goodIn_of _ (by decide +kernel)) ggX6_place_X1_isNone
set_option maxRecDepth 20000 in
theorem ggX6_place_X1_isInfinite : GoodIn wsX6_place wsX1_isInfinite := goodIn_r _ [60, 57, 16] (by decide +kernel) (by decide +kernel)
set_option maxRecDepth 20000 in
theorem gX6_place_X1_isInfinite : GoodIn wsX6_place (va_wsS RX6 54 yX1_isInfinite wsX1_isInfinite) := goodIn_app (goodIn_of _ (by decide +kernel)) ggX6_place_X1_isInfinite
set_option maxRecDepth 20000 in
theorem ggX6_place_X6_putWalled : GoodIn wsX6_place wsX6_putWalled := goodIn_r _ [64, 65, 66, 67, 68, 69, 70, 71, 72, 73, 74, 75, 76, 14, 77, 78, 79, 80, 57, 81, 82, 83, 58, 59, 60, 16, 49, 50, 51, 47, 52, 53, 84, 85, 86, 87, 88, 89, 90, 91, 92, 93, 94, 95, 96, 97, 98, 99, 100, 101, 102, 103, 104, 105, 106, 107, 108, 109, 110, 111, 112, 113, 114, 115, 116, 117, 118, 119, 120] (by decide +kernel) (by decide +kernel)
set_option maxRecDepth 20000 in
theorem gX6_place_X6_putWalled : GoodIn wsX6_place (wsV RX6 57 RX6 yX6_putWalled wsX6_putWalled) := goodIn_app (goodIn_of _ (by decide +kernel)) ggX6_place_X6_putWalled
theorem dX6_place_0 : decode cX6_place 0 = .ok (.iload 4, 2) := by decide +kernel
theorem dX6_place_2 : decode cX6_place 2 = .ok (.invokestatic 36, 3) := by decide +kernel
theorem dX6_place_5 : decode cX6_place 5 = .ok (.lstore 5, 2) := by decide +kernel
theorem dX6_place_7 : decode cX6_place 7 = .ok (.iload_n 1, 1) := by decide +kernel
theorem dX6_place_8 : decode cX6_place 8 = .ok (.invokestatic 42, 3) := by decide +kernel
theorem dX6_place_11 : decode cX6_place 11 = .ok (.ifCond .ne 9, 3) := by decide +kernel
theorem dX6_place_14 : decode cX6_place 14 = .ok (.aload_n 0, 1) := by decide +kernel
theorem dX6_place_15 : decode cX6_place 15 = .ok (.iconst 1, 1) := by decide +kernel
theorem dX6_place_16 : decode cX6_place 16 = .ok (.invokevirtual 46, 3) := by decide +kernel
theorem dX6_place_19 : decode cX6_place 19 = .ok (.ireturn, 1) := by decide +kernel
theorem dX6_place_20 : decode cX6_place 20 = .ok (.lload_n 2, 1) := by decide +kernel
theorem dX6_place_21 : decode cX6_place 21 = .ok (.invokestatic 50, 3) := by decide +kernel
theorem dX6_place_24 : decode cX6_place 24 = .ok (.ifCond .ne 11, 3) := by decide +kernel
theorem dX6_place_27 : decode cX6_place 27 = .ok (.lload 5, 2) := by decide +kernel
theorem dX6_place_29 : decode cX6_place 29 = .ok (.invokestatic 50, 3) := by decide +kernel
theorem dX6_place_32 : decode cX6_place 32 = .ok (.ifCond .eq 9, 3) := by decide +kernel
theorem dX6_place_35 : decode cX6_place 35 = .ok (.aload_n 0, 1) := by decide +kernel
theorem dX6_place_36 : decode cX6_place 36 = .ok (.iconst 2, 1) := by decide +kernel
theorem dX6_place_37 : decode cX6_place 37 = .ok (.invokevirtual 46, 3) := by decide +kernel
theorem dX6_place_40 : decode cX6_place 40 = .ok (.ireturn, 1) := by decide +kernel
theorem dX6_place_41 : decode cX6_place 41 = .ok (.lload_n 2, 1) := by decide +kernel
theorem dX6_place_42 : decode cX6_place 42 = .ok (.invokestatic 54, 3) := by decide +kernel
theorem dX6_place_45 : decode cX6_place 45 = .ok (.ifCond .ne 11, 3) := by decide +kernel
theorem dX6_place_48 : decode cX6_place 48 = .ok (.lload 5, 2) := by decide +kernel
theorem dX6_place_50 : decode cX6_place 50 = .ok (.invokestatic 54, 3) := by decide +kernel
theorem dX6_place_53 : decode cX6_place 53 = .ok (.ifCond .eq 9, 3) := by decide +kernel
theorem dX6_place_56 : decode cX6_place 56 = .ok (.aload_n 0, 1) := by decide +kernel
theorem dX6_place_57 : decode cX6_place 57 = .ok (.iconst 3, 1) := by decide +kernel
theorem dX6_place_58 : decode cX6_place 58 = .ok (.invokevirtual 46, 3) := by decide +kernel
theorem dX6_place_61 : decode cX6_place 61 = .ok (.ireturn, 1) := by decide +kernel
theorem dX6_place_62 : decode cX6_place 62 = .ok (.aload_n 0, 1) := by decide +kernel
theorem dX6_place_63 : decode cX6_place 63 = .ok (.iload_n 1, 1) := by decide +kernel
theorem dX6_place_64 : decode cX6_place 64 = .ok (.lload_n 2, 1) := by decide +kernel
theorem dX6_place_65 : decode cX6_place 65 = .ok (.lload 5, 2) := by decide +kernel
theorem dX6_place_67 : decode cX6_place 67 = .ok (.invokevirtual 57, 3) := by decide +kernel
theorem dX6_place_70 : decode cX6_place 70 = .ok (.ireturn, 1) := by decide +kernel
set_option maxRecDepth 20000 in
theorem ggX6_walls_X6_fence : GoodIn wsX6_walls wsX6_fence := goodIn_r _ [6, 7, 8, 9, 10, 11, 12, 13, 14, 15, 16, 17, 5, 18, 19, 20, 21, 22, 23, 24, 25, 26, 27, 28, 29, 30, 31, 32, 33, 34, 35, 36, 37, 38, 39, 40, 41, 42, 43, 44, 45, 46, 47, 48, 49, 50, 51, 52, 53, 54, 55, 56, 57, 58, 59, 60, 61, 62, 63, 64, 65, 66, 67, 68, 69, 70, 71, 72, 73, 74, 75, 76, 77, 78, 79, 80, 81, 82, 83, 84, 85, 86, 87, 88, 89, 90, 91, 92, 93, 94, 95, 96, 97, 98, 99, 100] (by decide +kernel) (by decide +kernel)
set_option maxRecDepth 20000 in
theorem gX6_walls_X6_fence : GoodIn wsX6_walls (wsV RX6 61 RX6 yX6_fence wsX6_fence) := goodIn_app (goodIn_of _ (by decide +kernel)) ggX6_walls_X6_fence
theorem dX6_walls_0 : decode cX6_walls 0 = .ok (.aload_n 0, 1) := by decide +kernel
theorem dX6_walls_1 : decode cX6_walls 1 = .ok (.aload_n 0, 1) := by decide +kernel
theorem dX6_walls_2 : decode cX6_walls 2 = .ok (.getfield 12, 3) := by decide +kernel
theorem dX6_walls_5 : decode cX6_walls 5 = .ok (.lload_n 1, 1) := by decide +kernel
theorem dX6_walls_6 : decode cX6_walls 6 = .ok (.lload_n 3, 1) := by decide +kernel
theorem dX6_walls_7 : decode cX6_walls 7 = .ok (.invokevirtual 61, 3) := by decide +kernel
theorem dX6_walls_10 : decode cX6_walls 10 = .ok (.ireturn, 1) := by decide +kernel
set_option maxRecDepth 20000 in
theorem ggX6_rails_X3_widened : GoodIn wsX6_rails wsX3_widened := goodIn_r _ [5, 6, 7, 8, 9, 10, 11, 12, 13, 14, 15, 16, 17, 18, 19, 20, 21, 22, 23, 24, 25, 26, 27, 28, 29, 30, 31, 32, 33, 34, 35, 36, 37, 38, 39, 40, 41, 42, 43, 44, 45] (by decide +kernel) (by decide +kernel)
set_option maxRecDepth 20000 in
theorem gX6_rails_X3_widened : GoodIn wsX6_rails (va_wsS RX6 36 yX3_widened wsX3_widened) := goodIn_app (goodIn_of _ (by decide +kernel)) ggX6_rails_X3_widened
set_option maxRecDepth 20000 in
theorem ggX6_rails_X6_fence : GoodIn wsX6_rails wsX6_fence := goodIn_r _ [50, 51, 52, 53, 54, 15, 55, 56, 17, 57, 58, 59, 49, 60, 61, 62, 63, 64, 65, 66, 67, 68, 69, 70, 71, 72, 19, 20, 21, 22, 23, 43, 44, 45, 27, 28, 29, 30, 31, 32, 33, 34, 35, 36, 37, 38, 39, 73, 74, 75, 76, 77, 78, 79, 80, 81, 82, 83, 84, 85, 86, 87, 88, 89, 90, 91, 92, 93, 94, 95, 96, 97, 98, 99, 100, 101, 102, 103, 104, 105, 106, 107, 108, 109, 110, 111, 112, 113, 114, 115, 116, 117, 118, 119, 120, 121] (by decide +kernel) (by decide +kernel)
set_option maxRecDepth 20000 in
theorem gX6_rails_X6_fence : GoodIn wsX6_rails (wsV RX6 61 RX6 yX6_fence wsX6_fence) := goodIn_app (goodIn_of _ (by decide +kernel)) ggX6_rails_X6_fence
theorem dX6_rails_0 : decode cX6_rails 0 = .ok (.aload_n 0, 1) := by decide +kernel
theorem dX6_rails_1 : decode cX6_rails 1 = .ok (.aload_n 0, 1) := by decide +kernel
theorem dX6_rails_2 : decode cX6_rails 2 = .ok (.getfield 18, 3) := by decide +kernel
theorem dX6_rails_5 : decode cX6_rails 5 = .ok (.iload_n 1, 1) := by decide +kernel
theorem dX6_rails_6 : decode cX6_rails 6 = .ok (.invokestatic 36, 3) := by decide +kernel
theorem dX6_rails_9 : decode cX6_rails 9 = .ok (.iload_n 2, 1) := by decide +kernel
theorem dX6_rails_10 : decode cX6_rails 10 = .ok (.invokestatic 36, 3) := by decide +kernel
theorem dX6_rails_13 : decode cX6_rails 13 = .ok (.invokevirtual 61, 3) := by decide +kernel
theorem dX6_rails_16 : decode cX6_rails 16 = .ok (.ireturn, 1) := by decide +kernel
set_option maxRecDepth 20000 in
theorem ggX6_steps_X3_widened : GoodIn wsX6_steps wsX3_widened := goodIn_r _ [6, 7, 8, 9, 10, 11, 12, 13, 14, 15, 16, 17, 18, 19, 20, 21, 22, 23, 24, 25, 26, 27, 28, 29, 30, 31, 32, 33, 34, 35, 36, 37, 38, 39, 40, 41, 42, 43, 44, 45, 46] (by decide +kernel) (by decide +kernel)
set_option maxRecDepth 20000 in
theorem gX6_steps_X3_widened : GoodIn wsX6_steps (va_wsS RX6 36 yX3_widened wsX3_widened) := goodIn_app (goodIn_of _ (by decide +kernel)) ggX6_steps_X3_widened
set_option maxRecDepth 20000 in
theorem ggX6_steps_X1_isNone : GoodIn wsX6_steps wsX1_isNone := goodIn_r _ [49, 50, 18] (by decide +kernel) (by decide +kernel)
set_option maxRecDepth 20000 in
theorem gX6_steps_X1_isNone : GoodIn wsX6_steps (va_wsS RX6 50 yX1_isNone wsX1_isNone) := goodIn_app (goodIn_of _ (by decide +kernel)) ggX6_steps_X1_isNone
set_option maxRecDepth 20000 in
theorem ggX6_steps_X6_refuse : GoodIn wsX6_steps wsX6_refuse := goodIn_r _ [55, 56, 68, 69, 70, 71, 72, 73, 74] (by decide +kernel) (by decide +kernel)
set_option maxRecDepth 20000 in
theorem gX6_steps_X6_refuse : GoodIn wsX6_steps (wsV RX6 46 RX6 yX6_refuse wsX6_refuse) := goodIn_app (goodIn_of _ (by decide +kernel)) ggX6_steps_X6_refuse
set_option maxRecDepth 20000 in
theorem ggX6_steps_X1_isInfinite : GoodIn wsX6_steps wsX1_isInfinite := goodIn_r _ [59, 50, 18] (by decide +kernel) (by decide +kernel)
set_option maxRecDepth 20000 in
theorem gX6_steps_X1_isInfinite : GoodIn wsX6_steps (va_wsS RX6 54 yX1_isInfinite wsX1_isInfinite) := goodIn_app (goodIn_of _ (by decide +kernel)) ggX6_steps_X1_isInfinite
set_option maxRecDepth 20000 in
theorem ggX6_steps_X1_isAboveZero : GoodIn wsX6_steps wsX1_isAboveZero := goodIn_r _ [62] (by decide +kernel) (by decide +kernel)
set_option maxRecDepth 20000 in
theorem gX6_steps_X1_isAboveZero : GoodIn wsX6_steps (va_wsS RX6 65 yX1_isAboveZero wsX1_isAboveZero) := goodIn_app (goodIn_of _ (by decide +kernel)) ggX6_steps_X1_isAboveZero
set_option maxRecDepth 20000 in
theorem ggX6_steps_X6_finish : GoodIn wsX6_steps wsX6_finish := goodIn_r _ [66, 67, 68, 69, 70, 71, 72, 73, 74] (by decide +kernel) (by decide +kernel)
set_option maxRecDepth 20000 in
theorem gX6_steps_X6_finish : GoodIn wsX6_steps (wsV RX6 72 RX6 yX6_finish wsX6_finish) := goodIn_app (goodIn_of _ (by decide +kernel)) ggX6_steps_X6_finish
theorem dX6_steps_0 : decode cX6_steps 0 = .ok (.iload_n 3, 1) := by decide +kernel
theorem dX6_steps_1 : decode cX6_steps 1 = .ok (.invokestatic 36, 3) := by decide +kernel
theorem dX6_steps_4 : decode cX6_steps 4 = .ok (.lstore 4, 2) := by decide +kernel
theorem dX6_steps_6 : decode cX6_steps 6 = .ok (.lload_n 1, 1) := by decide +kernel
theorem dX6_steps_7 : decode cX6_steps 7 = .ok (.invokestatic 50, 3) := by decide +kernel
theorem dX6_steps_10 : decode cX6_steps 10 = .ok (.ifCond .ne 11, 3) := by decide +kernel
theorem dX6_steps_13 : decode cX6_steps 13 = .ok (.lload 4, 2) := by decide +kernel
theorem dX6_steps_15 : decode cX6_steps 15 = .ok (.invokestatic 50, 3) := by decide +kernel
theorem dX6_steps_18 : decode cX6_steps 18 = .ok (.ifCond .eq 9, 3) := by decide +kernel
theorem dX6_steps_21 : decode cX6_steps 21 = .ok (.aload_n 0, 1) := by decide +kernel
theorem dX6_steps_22 : decode cX6_steps 22 = .ok (.iconst 2, 1) := by decide +kernel
theorem dX6_steps_23 : decode cX6_steps 23 = .ok (.invokevirtual 46, 3) := by decide +kernel
theorem dX6_steps_26 : decode cX6_steps 26 = .ok (.ireturn, 1) := by decide +kernel
theorem dX6_steps_27 : decode cX6_steps 27 = .ok (.lload_n 1, 1) := by decide +kernel
theorem dX6_steps_28 : decode cX6_steps 28 = .ok (.invokestatic 54, 3) := by decide +kernel
theorem dX6_steps_31 : decode cX6_steps 31 = .ok (.ifCond .ne 11, 3) := by decide +kernel
theorem dX6_steps_34 : decode cX6_steps 34 = .ok (.lload 4, 2) := by decide +kernel
theorem dX6_steps_36 : decode cX6_steps 36 = .ok (.invokestatic 54, 3) := by decide +kernel
theorem dX6_steps_39 : decode cX6_steps 39 = .ok (.ifCond .eq 9, 3) := by decide +kernel
theorem dX6_steps_42 : decode cX6_steps 42 = .ok (.aload_n 0, 1) := by decide +kernel
theorem dX6_steps_43 : decode cX6_steps 43 = .ok (.iconst 3, 1) := by decide +kernel
theorem dX6_steps_44 : decode cX6_steps 44 = .ok (.invokevirtual 46, 3) := by decide +kernel
theorem dX6_steps_47 : decode cX6_steps 47 = .ok (.ireturn, 1) := by decide +kernel
theorem dX6_steps_48 : decode cX6_steps 48 = .ok (.lload_n 1, 1) := by decide +kernel
theorem dX6_steps_49 : decode cX6_steps 49 = .ok (.invokestatic 65, 3) := by decide +kernel
theorem dX6_steps_52 : decode cX6_steps 52 = .ok (.ifCond .eq 11, 3) := by decide +kernel
theorem dX6_steps_55 : decode cX6_steps 55 = .ok (.lload 4, 2) := by decide +kernel
theorem dX6_steps_57 : decode cX6_steps 57 = .ok (.invokestatic 65, 3) := by decide +kernel
theorem dX6_steps_60 : decode cX6_steps 60 = .ok (.ifCond .ne 9, 3) := by decide +kernel
theorem dX6_steps_63 : decode cX6_steps 63 = .ok (.aload_n 0, 1) := by decide +kernel
theorem dX6_steps_64 : decode cX6_steps 64 = .ok (.iconst 4, 1) := by decide +kernel
theorem dX6_steps_65 : decode cX6_steps 65 = .ok (.invokevirtual 46, 3) := by decide +kernel
theorem dX6_steps_68 : decode cX6_steps 68 = .ok (.ireturn, 1) := by decide +kernel
theorem dX6_steps_69 : decode cX6_steps 69 = .ok (.aload_n 0, 1) := by decide +kernel
theorem dX6_steps_70 : decode cX6_steps 70 = .ok (.getfield 12, 3) := by decide +kernel
theorem dX6_steps_73 : decode cX6_steps 73 = .ok (.lload_n 1, 1) := by decide +kernel
theorem dX6_steps_74 : decode cX6_steps 74 = .ok (.putfield 68, 3) := by decide +kernel
theorem dX6_steps_77 : decode cX6_steps 77 = .ok (.aload_n 0, 1) := by decide +kernel
theorem dX6_steps_78 : decode cX6_steps 78 = .ok (.getfield 18, 3) := by decide +kernel
theorem dX6_steps_81 : decode cX6_steps 81 = .ok (.lload 4, 2) := by decide +kernel
theorem dX6_steps_83 : decode cX6_steps 83 = .ok (.putfield 68, 3) := by decide +kernel
theorem dX6_steps_86 : decode cX6_steps 86 = .ok (.aload_n 0, 1) := by decide +kernel
theorem dX6_steps_87 : decode cX6_steps 87 = .ok (.invokevirtual 72, 3) := by decide +kernel
theorem dX6_steps_90 : decode cX6_steps 90 = .ok (.ireturn, 1) := by decide +kernel
set_option maxRecDepth 20000 in
theorem ggX6_move_X3_widened : GoodIn wsX6_move wsX3_widened := goodIn_r _ [6, 7, 8, 9, 10, 11, 12, 13, 14, 15, 16, 17, 18, 19, 20, 21, 22, 23, 24, 25, 26, 27, 28, 29, 30, 31, 32, 33, 34, 35, 36, 37, 38, 39, 40, 41, 42, 43, 44, 45, 46] (by decide +kernel) (by decide +kernel)
set_option maxRecDepth 20000 in
theorem gX6_move_X3_widened : GoodIn wsX6_move (va_wsS RX6 36 yX3_widened wsX3_widened) := goodIn_app (goodIn_of _ (by decide +kernel)) ggX6_move_X3_widened
set_option maxRecDepth 20000 in
theorem ggX6_move_X6_isPoint : GoodIn wsX6_move wsX6_isPoint := goodIn_r _ [50] (by decide +kernel) (by decide +kernel)
set_option maxRecDepth 20000 in
theorem gX6_move_X6_isPoint : GoodIn wsX6_move (va_wsS RX6 42 yX6_isPoint wsX6_isPoint) := goodIn_app (goodIn_of _ (by decide +kernel)) ggX6_move_X6_isPoint
set_option maxRecDepth 20000 in
theorem ggX6_move_X6_refuse : GoodIn wsX6_move wsX6_refuse := goodIn_r _ [54, 55, 124, 125, 126, 127, 128, 129, 130] (by decide +kernel) (by decide +kernel)
set_option maxRecDepth 20000 in
theorem gX6_move_X6_refuse : GoodIn wsX6_move (wsV RX6 46 RX6 yX6_refuse wsX6_refuse) := goodIn_app (goodIn_of _ (by decide +kernel)) ggX6_move_X6_refuse
set_option maxRecDepth 20000 in
theorem ggX6_move_X1_isNone : GoodIn wsX6_move wsX1_isNone := goodIn_r _ [58, 59, 18] (by decide +kernel) (by decide +kernel)
set_option maxRecDepth 20000 in
theorem gX6_move_X1_isNone : GoodIn wsX6_move (va_wsS RX6 50 yX1_isNone wsX1_isNone) := goodIn_app (goodIn_of _ (by decide +kernel)) ggX6_move_X1_isNone
set_option maxRecDepth 20000 in
theorem ggX6_move_X0_sum : GoodIn wsX6_move wsX0_sum := goodIn_r _ [64, 65, 66, 67, 68, 16, 69, 70, 71, 72, 59, 73, 74, 75, 76, 77, 18, 20, 21, 22, 23, 24, 44, 45, 46, 28, 29, 30, 31, 32, 33, 34, 35, 36, 37, 38, 39, 40, 78, 79, 80, 81, 82, 15, 17, 19, 25, 26, 27, 41, 42, 43, 131, 132, 133, 134, 135] (by decide +kernel) (by decide +kernel)
set_option maxRecDepth 20000 in
theorem gX6_move_X0_sum : GoodIn wsX6_move (wsV RX6 79 RX0 yX0_sum wsX0_sum) := goodIn_app (goodIn_of _ (by decide +kernel)) ggX6_move_X0_sum
set_option maxRecDepth 20000 in
theorem ggX6_move_X6_putWalled : GoodIn wsX6_move wsX6_putWalled := goodIn_r _ [86, 1, 2, 87, 88, 89, 90, 63, 91, 92, 93, 94, 95, 16, 96, 97, 98, 99, 59, 100, 101, 102, 103, 76, 77, 18, 51, 52, 53, 49, 54, 55, 104, 105, 106, 107, 108, 109, 110, 111, 112, 113, 114, 115, 116, 117, 118, 119, 120, 121, 122, 123, 124, 125, 126, 127, 128, 129, 130, 131, 132, 133, 134, 135, 136, 137, 138, 139, 140] (by decide +kernel) (by decide +kernel)
set_option maxRecDepth 20000 in
theorem gX6_move_X6_putWalled : GoodIn wsX6_move (wsV RX6 57 RX6 yX6_putWalled wsX6_putWalled) := goodIn_app (goodIn_of _ (by decide +kernel)) ggX6_move_X6_putWalled
theorem dX6_move_0 : decode cX6_move 0 = .ok (.iload 4, 2) := by decide +kernel
theorem dX6_move_2 : decode cX6_move 2 = .ok (.invokestatic 36, 3) := by decide +kernel
theorem dX6_move_5 : decode cX6_move 5 = .ok (.lstore 5, 2) := by decide +kernel
theorem dX6_move_7 : decode cX6_move 7 = .ok (.iload_n 1, 1) := by decide +kernel
theorem dX6_move_8 : decode cX6_move 8 = .ok (.invokestatic 42, 3) := by decide +kernel
theorem dX6_move_11 : decode cX6_move 11 = .ok (.ifCond .ne 9, 3) := by decide +kernel
theorem dX6_move_14 : decode cX6_move 14 = .ok (.aload_n 0, 1) := by decide +kernel
theorem dX6_move_15 : decode cX6_move 15 = .ok (.iconst 1, 1) := by decide +kernel
theorem dX6_move_16 : decode cX6_move 16 = .ok (.invokevirtual 46, 3) := by decide +kernel
theorem dX6_move_19 : decode cX6_move 19 = .ok (.ireturn, 1) := by decide +kernel
theorem dX6_move_20 : decode cX6_move 20 = .ok (.lload_n 2, 1) := by decide +kernel
theorem dX6_move_21 : decode cX6_move 21 = .ok (.invokestatic 50, 3) := by decide +kernel
theorem dX6_move_24 : decode cX6_move 24 = .ok (.ifCond .ne 11, 3) := by decide +kernel
theorem dX6_move_27 : decode cX6_move 27 = .ok (.lload 5, 2) := by decide +kernel
theorem dX6_move_29 : decode cX6_move 29 = .ok (.invokestatic 50, 3) := by decide +kernel
theorem dX6_move_32 : decode cX6_move 32 = .ok (.ifCond .eq 9, 3) := by decide +kernel
theorem dX6_move_35 : decode cX6_move 35 = .ok (.aload_n 0, 1) := by decide +kernel
theorem dX6_move_36 : decode cX6_move 36 = .ok (.iconst 2, 1) := by decide +kernel
theorem dX6_move_37 : decode cX6_move 37 = .ok (.invokevirtual 46, 3) := by decide +kernel
theorem dX6_move_40 : decode cX6_move 40 = .ok (.ireturn, 1) := by decide +kernel
theorem dX6_move_41 : decode cX6_move 41 = .ok (.aload_n 0, 1) := by decide +kernel
theorem dX6_move_42 : decode cX6_move 42 = .ok (.iload_n 1, 1) := by decide +kernel
theorem dX6_move_43 : decode cX6_move 43 = .ok (.aload_n 0, 1) := by decide +kernel
theorem dX6_move_44 : decode cX6_move 44 = .ok (.getfield 12, 3) := by decide +kernel
theorem dX6_move_47 : decode cX6_move 47 = .ok (.aload_n 0, 1) := by decide +kernel
theorem dX6_move_48 : decode cX6_move 48 = .ok (.getfield 12, 3) := by decide +kernel
theorem dX6_move_51 : decode cX6_move 51 = .ok (.getfield 76, 3) := by decide +kernel
theorem dX6_move_54 : decode cX6_move 54 = .ok (.iload_n 1, 1) := by decide +kernel
theorem dX6_move_55 : decode cX6_move 55 = .ok (.laload, 1) := by decide +kernel
theorem dX6_move_56 : decode cX6_move 56 = .ok (.lload_n 2, 1) := by decide +kernel
theorem dX6_move_57 : decode cX6_move 57 = .ok (.invokevirtual 79, 3) := by decide +kernel
theorem dX6_move_60 : decode cX6_move 60 = .ok (.aload_n 0, 1) := by decide +kernel
theorem dX6_move_61 : decode cX6_move 61 = .ok (.getfield 18, 3) := by decide +kernel
theorem dX6_move_64 : decode cX6_move 64 = .ok (.aload_n 0, 1) := by decide +kernel
theorem dX6_move_65 : decode cX6_move 65 = .ok (.getfield 18, 3) := by decide +kernel
theorem dX6_move_68 : decode cX6_move 68 = .ok (.getfield 76, 3) := by decide +kernel
theorem dX6_move_71 : decode cX6_move 71 = .ok (.iload_n 1, 1) := by decide +kernel
theorem dX6_move_72 : decode cX6_move 72 = .ok (.laload, 1) := by decide +kernel
theorem dX6_move_73 : decode cX6_move 73 = .ok (.lload 5, 2) := by decide +kernel
theorem dX6_move_75 : decode cX6_move 75 = .ok (.invokevirtual 79, 3) := by decide +kernel
theorem dX6_move_78 : decode cX6_move 78 = .ok (.invokevirtual 57, 3) := by decide +kernel
theorem dX6_move_81 : decode cX6_move 81 = .ok (.ireturn, 1) := by decide +kernel
set_option maxRecDepth 20000 in
theorem ggX6_snap_X6_isPoint : GoodIn wsX6_snap wsX6_isPoint := goodIn_r _ [6] (by decide +kernel) (by decide +kernel)
set_option maxRecDepth 20000 in
theorem gX6_snap_X6_isPoint : GoodIn wsX6_snap (va_wsS RX6 42 yX6_isPoint wsX6_isPoint) := goodIn_app (goodIn_of _ (by decide +kernel)) ggX6_snap_X6_isPoint
set_option maxRecDepth 20000 in
theorem ggX6_snap_X5_isWay : GoodIn wsX6_snap wsX5_isWay := goodIn_r _ [10] (by decide +kernel) (by decide +kernel)
set_option maxRecDepth 20000 in
theorem gX6_snap_X5_isWay : GoodIn wsX6_snap (va_wsS RX6 83 yX5_isWay wsX5_isWay) := goodIn_app (goodIn_of _ (by decide +kernel)) ggX6_snap_X5_isWay
set_option maxRecDepth 20000 in
theorem ggX6_snap_X6_refuse : GoodIn wsX6_snap wsX6_refuse := goodIn_r _ [14, 15, 127, 128, 129, 130, 131, 132, 133] (by decide +kernel) (by decide +kernel)
set_option maxRecDepth 20000 in
theorem gX6_snap_X6_refuse : GoodIn wsX6_snap (wsV RX6 46 RX6 yX6_refuse wsX6_refuse) := goodIn_app (goodIn_of _ (by decide +kernel)) ggX6_snap_X6_refuse
set_option maxRecDepth 20000 in
theorem ggX6_snap_X0_snapped : GoodIn wsX6_snap wsX0_snapped := goodIn_r _ [20, 21, 22, 23, 24, 25, 19, 26, 27, 28, 29, 30, 31, 32, 33, 34, 35, 36, 37, 38, 39, 40, 41, 42, 43, 44, 45, 46, 47, 48, 49, 50, 51, 52, 53, 54, 55, 56, 57, 58, 59, 60, 61, 62, 63, 64, 65, 66, 67, 68, 69, 70, 71, 72, 73, 74, 9, 75, 76, 77, 78, 79, 80, 81, 82, 83, 84, 85, 134, 135, 136, 137, 138] (by decide +kernel) (by decide +kernel)
set_option maxRecDepth 20000 in
theorem gX6_snap_X0_snapped : GoodIn wsX6_snap (wsV RX6 88 RX0 yX0_snapped wsX0_snapped) := goodIn_app (goodIn_of _ (by decide +kernel)) ggX6_snap_X0_snapped
set_option maxRecDepth 20000 in
theorem ggX6_snap_X6_putWalled : GoodIn wsX6_snap wsX6_putWalled := goodIn_r _ [89, 1, 2, 90, 91, 92, 93, 19, 94, 95, 96, 97, 98, 29, 99, 100, 101, 102, 31, 103, 104, 105, 106, 35, 36, 37, 11, 12, 13, 5, 14, 15, 107, 108, 109, 110, 111, 112, 113, 114, 115, 116, 117, 118, 119, 120, 121, 122, 123, 124, 125, 126, 127, 128, 129, 130, 131, 132, 133, 134, 135, 136, 137, 138, 139, 140, 141, 142, 143] (by decide +kernel) (by decide +kernel)
set_option maxRecDepth 20000 in
theorem gX6_snap_X6_putWalled : GoodIn wsX6_snap (wsV RX6 57 RX6 yX6_putWalled wsX6_putWalled) := goodIn_app (goodIn_of _ (by decide +kernel)) ggX6_snap_X6_putWalled
theorem dX6_snap_0 : decode cX6_snap 0 = .ok (.iload_n 1, 1) := by decide +kernel
theorem dX6_snap_1 : decode cX6_snap 1 = .ok (.invokestatic 42, 3) := by decide +kernel
theorem dX6_snap_4 : decode cX6_snap 4 = .ok (.ifCond .eq 10, 3) := by decide +kernel
theorem dX6_snap_7 : decode cX6_snap 7 = .ok (.iload_n 2, 1) := by decide +kernel
theorem dX6_snap_8 : decode cX6_snap 8 = .ok (.invokestatic 83, 3) := by decide +kernel
theorem dX6_snap_11 : decode cX6_snap 11 = .ok (.ifCond .ne 9, 3) := by decide +kernel
theorem dX6_snap_14 : decode cX6_snap 14 = .ok (.aload_n 0, 1) := by decide +kernel
theorem dX6_snap_15 : decode cX6_snap 15 = .ok (.iconst 1, 1) := by decide +kernel
theorem dX6_snap_16 : decode cX6_snap 16 = .ok (.invokevirtual 46, 3) := by decide +kernel
theorem dX6_snap_19 : decode cX6_snap 19 = .ok (.ireturn, 1) := by decide +kernel
theorem dX6_snap_20 : decode cX6_snap 20 = .ok (.aload_n 0, 1) := by decide +kernel
theorem dX6_snap_21 : decode cX6_snap 21 = .ok (.iload_n 1, 1) := by decide +kernel
theorem dX6_snap_22 : decode cX6_snap 22 = .ok (.aload_n 0, 1) := by decide +kernel
theorem dX6_snap_23 : decode cX6_snap 23 = .ok (.getfield 12, 3) := by decide +kernel
theorem dX6_snap_26 : decode cX6_snap 26 = .ok (.aload_n 0, 1) := by decide +kernel
theorem dX6_snap_27 : decode cX6_snap 27 = .ok (.getfield 12, 3) := by decide +kernel
theorem dX6_snap_30 : decode cX6_snap 30 = .ok (.getfield 76, 3) := by decide +kernel
theorem dX6_snap_33 : decode cX6_snap 33 = .ok (.iload_n 1, 1) := by decide +kernel
theorem dX6_snap_34 : decode cX6_snap 34 = .ok (.laload, 1) := by decide +kernel
theorem dX6_snap_35 : decode cX6_snap 35 = .ok (.iload_n 2, 1) := by decide +kernel
theorem dX6_snap_36 : decode cX6_snap 36 = .ok (.invokevirtual 88, 3) := by decide +kernel
theorem dX6_snap_39 : decode cX6_snap 39 = .ok (.aload_n 0, 1) := by decide +kernel
theorem dX6_snap_40 : decode cX6_snap 40 = .ok (.getfield 18, 3) := by decide +kernel
theorem dX6_snap_43 : decode cX6_snap 43 = .ok (.aload_n 0, 1) := by decide +kernel
theorem dX6_snap_44 : decode cX6_snap 44 = .ok (.getfield 18, 3) := by decide +kernel
theorem dX6_snap_47 : decode cX6_snap 47 = .ok (.getfield 76, 3) := by decide +kernel
theorem dX6_snap_50 : decode cX6_snap 50 = .ok (.iload_n 1, 1) := by decide +kernel
theorem dX6_snap_51 : decode cX6_snap 51 = .ok (.laload, 1) := by decide +kernel
theorem dX6_snap_52 : decode cX6_snap 52 = .ok (.iload_n 2, 1) := by decide +kernel
theorem dX6_snap_53 : decode cX6_snap 53 = .ok (.invokevirtual 88, 3) := by decide +kernel
theorem dX6_snap_56 : decode cX6_snap 56 = .ok (.invokevirtual 57, 3) := by decide +kernel
theorem dX6_snap_59 : decode cX6_snap 59 = .ok (.ireturn, 1) := by decide +kernel
set_option maxRecDepth 20000 in
theorem ggX6_lean_X6_isPoint : GoodIn wsX6_lean wsX6_isPoint := goodIn_r _ [6] (by decide +kernel) (by decide +kernel)
set_option maxRecDepth 20000 in
theorem gX6_lean_X6_isPoint : GoodIn wsX6_lean (va_wsS RX6 42 yX6_isPoint wsX6_isPoint) := goodIn_app (goodIn_of _ (by decide +kernel)) ggX6_lean_X6_isPoint
set_option maxRecDepth 20000 in
theorem ggX6_lean_X6_refuse : GoodIn wsX6_lean wsX6_refuse := goodIn_r _ [10, 11, 63, 64, 65, 66, 67, 68, 69] (by decide +kernel) (by decide +kernel)
set_option maxRecDepth 20000 in
theorem gX6_lean_X6_refuse : GoodIn wsX6_lean (wsV RX6 46 RX6 yX6_refuse wsX6_refuse) := goodIn_app (goodIn_of _ (by decide +kernel)) ggX6_lean_X6_refuse
set_option maxRecDepth 20000 in
theorem ggX6_lean_X1_withSignOf : GoodIn wsX6_lean wsX1_withSignOf := goodIn_r _ [15, 16, 17] (by decide +kernel) (by decide +kernel)
set_option maxRecDepth 20000 in
theorem gX6_lean_X1_withSignOf : GoodIn wsX6_lean (va_wsS RX6 92 yX1_withSignOf wsX1_withSignOf) := goodIn_app (goodIn_of _ (by decide +kernel)) ggX6_lean_X1_withSignOf
set_option maxRecDepth 20000 in
theorem ggX6_lean_X6_putWalled : GoodIn wsX6_lean wsX6_putWalled := goodIn_r _ [21, 1, 2, 22, 23, 24, 25, 26, 27, 28, 29, 30, 31, 14, 32, 33, 34, 35, 16, 36, 37, 38, 39, 40, 41, 42, 7, 8, 9, 5, 10, 11, 43, 44, 45, 46, 47, 48, 49, 50, 51, 52, 53, 54, 55, 56, 57, 58, 59, 60, 61, 62, 63, 64, 65, 66, 67, 68, 69, 70, 71, 72, 73, 74, 75, 76, 77, 78, 79] (by decide +kernel) (by decide +kernel)
set_option maxRecDepth 20000 in
theorem gX6_lean_X6_putWalled : GoodIn wsX6_lean (wsV RX6 57 RX6 yX6_putWalled wsX6_putWalled) := goodIn_app (goodIn_of _ (by decide +kernel)) ggX6_lean_X6_putWalled
theorem dX6_lean_0 : decode cX6_lean 0 = .ok (.iload_n 1, 1) := by decide +kernel
theorem dX6_lean_1 : decode cX6_lean 1 = .ok (.invokestatic 42, 3) := by decide +kernel
theorem dX6_lean_4 : decode cX6_lean 4 = .ok (.ifCond .eq 10, 3) := by decide +kernel
theorem dX6_lean_7 : decode cX6_lean 7 = .ok (.iload_n 2, 1) := by decide +kernel
theorem dX6_lean_8 : decode cX6_lean 8 = .ok (.invokestatic 42, 3) := by decide +kernel
theorem dX6_lean_11 : decode cX6_lean 11 = .ok (.ifCond .ne 9, 3) := by decide +kernel
theorem dX6_lean_14 : decode cX6_lean 14 = .ok (.aload_n 0, 1) := by decide +kernel
theorem dX6_lean_15 : decode cX6_lean 15 = .ok (.iconst 1, 1) := by decide +kernel
theorem dX6_lean_16 : decode cX6_lean 16 = .ok (.invokevirtual 46, 3) := by decide +kernel
theorem dX6_lean_19 : decode cX6_lean 19 = .ok (.ireturn, 1) := by decide +kernel
theorem dX6_lean_20 : decode cX6_lean 20 = .ok (.aload_n 0, 1) := by decide +kernel
theorem dX6_lean_21 : decode cX6_lean 21 = .ok (.iload_n 1, 1) := by decide +kernel
theorem dX6_lean_22 : decode cX6_lean 22 = .ok (.aload_n 0, 1) := by decide +kernel
theorem dX6_lean_23 : decode cX6_lean 23 = .ok (.getfield 12, 3) := by decide +kernel
theorem dX6_lean_26 : decode cX6_lean 26 = .ok (.getfield 76, 3) := by decide +kernel
theorem dX6_lean_29 : decode cX6_lean 29 = .ok (.iload_n 1, 1) := by decide +kernel
theorem dX6_lean_30 : decode cX6_lean 30 = .ok (.laload, 1) := by decide +kernel
theorem dX6_lean_31 : decode cX6_lean 31 = .ok (.aload_n 0, 1) := by decide +kernel
theorem dX6_lean_32 : decode cX6_lean 32 = .ok (.getfield 12, 3) := by decide +kernel
theorem dX6_lean_35 : decode cX6_lean 35 = .ok (.getfield 76, 3) := by decide +kernel
theorem dX6_lean_38 : decode cX6_lean 38 = .ok (.iload_n 2, 1) := by decide +kernel
theorem dX6_lean_39 : decode cX6_lean 39 = .ok (.laload, 1) := by decide +kernel
theorem dX6_lean_40 : decode cX6_lean 40 = .ok (.invokestatic 92, 3) := by decide +kernel
theorem dX6_lean_43 : decode cX6_lean 43 = .ok (.aload_n 0, 1) := by decide +kernel
theorem dX6_lean_44 : decode cX6_lean 44 = .ok (.getfield 18, 3) := by decide +kernel
theorem dX6_lean_47 : decode cX6_lean 47 = .ok (.getfield 76, 3) := by decide +kernel
theorem dX6_lean_50 : decode cX6_lean 50 = .ok (.iload_n 1, 1) := by decide +kernel
theorem dX6_lean_51 : decode cX6_lean 51 = .ok (.laload, 1) := by decide +kernel
theorem dX6_lean_52 : decode cX6_lean 52 = .ok (.aload_n 0, 1) := by decide +kernel
theorem dX6_lean_53 : decode cX6_lean 53 = .ok (.getfield 18, 3) := by decide +kernel
theorem dX6_lean_56 : decode cX6_lean 56 = .ok (.getfield 76, 3) := by decide +kernel
theorem dX6_lean_59 : decode cX6_lean 59 = .ok (.iload_n 2, 1) := by decide +kernel
theorem dX6_lean_60 : decode cX6_lean 60 = .ok (.laload, 1) := by decide +kernel
theorem dX6_lean_61 : decode cX6_lean 61 = .ok (.invokestatic 92, 3) := by decide +kernel
theorem dX6_lean_64 : decode cX6_lean 64 = .ok (.invokevirtual 57, 3) := by decide +kernel
theorem dX6_lean_67 : decode cX6_lean 67 = .ok (.ireturn, 1) := by decide +kernel
set_option maxRecDepth 20000 in
theorem ggX6_pull_X6_isPoint : GoodIn wsX6_pull wsX6_isPoint := goodIn_r _ [6] (by decide +kernel) (by decide +kernel)
set_option maxRecDepth 20000 in
theorem gX6_pull_X6_isPoint : GoodIn wsX6_pull (va_wsS RX6 42 yX6_isPoint wsX6_isPoint) := goodIn_app (goodIn_of _ (by decide +kernel)) ggX6_pull_X6_isPoint
set_option maxRecDepth 20000 in
theorem ggX6_pull_X6_isEnd : GoodIn wsX6_pull wsX6_isEnd := goodIn_r _ [9] (by decide +kernel) (by decide +kernel)
set_option maxRecDepth 20000 in
theorem gX6_pull_X6_isEnd : GoodIn wsX6_pull (va_wsS RX6 95 yX6_isEnd wsX6_isEnd) := goodIn_app (goodIn_of _ (by decide +kernel)) ggX6_pull_X6_isEnd
set_option maxRecDepth 20000 in
theorem ggX6_pull_X6_refuse : GoodIn wsX6_pull wsX6_refuse := goodIn_r _ [13, 14, 49, 50, 51, 52, 53, 54, 55] (by decide +kernel) (by decide +kernel)
set_option maxRecDepth 20000 in
theorem gX6_pull_X6_refuse : GoodIn wsX6_pull (wsV RX6 46 RX6 yX6_refuse wsX6_refuse) := goodIn_app (goodIn_of _ (by decide +kernel)) ggX6_pull_X6_refuse
set_option maxRecDepth 20000 in
theorem ggX6_pull_X1_outer : GoodIn wsX6_pull wsX1_outer := goodIn_r _ [18, 19, 20, 17, 21, 22, 23, 24, 25, 26, 27, 28] (by decide +kernel) (by decide +kernel)
set_option maxRecDepth 20000 in
theorem gX6_pull_X1_outer : GoodIn wsX6_pull (va_wsS RX6 98 yX1_outer wsX1_outer) := goodIn_app (goodIn_of _ (by decide +kernel)) ggX6_pull_X1_outer
set_option maxRecDepth 20000 in
theorem ggX6_pull_X6_put : GoodIn wsX6_pull wsX6_put := goodIn_r _ [32, 33, 1, 2, 34, 35, 36, 37, 38, 39, 40, 41, 42, 43, 44, 45, 46, 5, 47, 48, 49, 50, 51, 52, 53, 54, 55, 56, 57, 58, 59, 60, 61, 62, 63, 64, 65] (by decide +kernel) (by decide +kernel)
set_option maxRecDepth 20000 in
theorem gX6_pull_X6_put : GoodIn wsX6_pull (wsV RX6 102 RX6 yX6_put wsX6_put) := goodIn_app (goodIn_of _ (by decide +kernel)) ggX6_pull_X6_put
theorem dX6_pull_0 : decode cX6_pull 0 = .ok (.iload_n 1, 1) := by decide +kernel
theorem dX6_pull_1 : decode cX6_pull 1 = .ok (.invokestatic 42, 3) := by decide +kernel
theorem dX6_pull_4 : decode cX6_pull 4 = .ok (.ifCond .eq 17, 3) := by decide +kernel
theorem dX6_pull_7 : decode cX6_pull 7 = .ok (.iload_n 2, 1) := by decide +kernel
theorem dX6_pull_8 : decode cX6_pull 8 = .ok (.invokestatic 42, 3) := by decide +kernel
theorem dX6_pull_11 : decode cX6_pull 11 = .ok (.ifCond .eq 10, 3) := by decide +kernel
theorem dX6_pull_14 : decode cX6_pull 14 = .ok (.iload_n 3, 1) := by decide +kernel
theorem dX6_pull_15 : decode cX6_pull 15 = .ok (.invokestatic 95, 3) := by decide +kernel
theorem dX6_pull_18 : decode cX6_pull 18 = .ok (.ifCond .ne 9, 3) := by decide +kernel
theorem dX6_pull_21 : decode cX6_pull 21 = .ok (.aload_n 0, 1) := by decide +kernel
theorem dX6_pull_22 : decode cX6_pull 22 = .ok (.iconst 1, 1) := by decide +kernel
theorem dX6_pull_23 : decode cX6_pull 23 = .ok (.invokevirtual 46, 3) := by decide +kernel
theorem dX6_pull_26 : decode cX6_pull 26 = .ok (.ireturn, 1) := by decide +kernel
theorem dX6_pull_27 : decode cX6_pull 27 = .ok (.aload_n 0, 1) := by decide +kernel
theorem dX6_pull_28 : decode cX6_pull 28 = .ok (.iload_n 1, 1) := by decide +kernel
theorem dX6_pull_29 : decode cX6_pull 29 = .ok (.aload_n 0, 1) := by decide +kernel
theorem dX6_pull_30 : decode cX6_pull 30 = .ok (.getfield 12, 3) := by decide +kernel
theorem dX6_pull_33 : decode cX6_pull 33 = .ok (.getfield 76, 3) := by decide +kernel
theorem dX6_pull_36 : decode cX6_pull 36 = .ok (.iload_n 1, 1) := by decide +kernel
theorem dX6_pull_37 : decode cX6_pull 37 = .ok (.laload, 1) := by decide +kernel
theorem dX6_pull_38 : decode cX6_pull 38 = .ok (.aload_n 0, 1) := by decide +kernel
theorem dX6_pull_39 : decode cX6_pull 39 = .ok (.getfield 12, 3) := by decide +kernel
theorem dX6_pull_42 : decode cX6_pull 42 = .ok (.getfield 76, 3) := by decide +kernel
theorem dX6_pull_45 : decode cX6_pull 45 = .ok (.iload_n 2, 1) := by decide +kernel
theorem dX6_pull_46 : decode cX6_pull 46 = .ok (.laload, 1) := by decide +kernel
theorem dX6_pull_47 : decode cX6_pull 47 = .ok (.iload_n 3, 1) := by decide +kernel
theorem dX6_pull_48 : decode cX6_pull 48 = .ok (.invokestatic 98, 3) := by decide +kernel
theorem dX6_pull_51 : decode cX6_pull 51 = .ok (.aload_n 0, 1) := by decide +kernel
theorem dX6_pull_52 : decode cX6_pull 52 = .ok (.getfield 18, 3) := by decide +kernel
theorem dX6_pull_55 : decode cX6_pull 55 = .ok (.getfield 76, 3) := by decide +kernel
theorem dX6_pull_58 : decode cX6_pull 58 = .ok (.iload_n 1, 1) := by decide +kernel
theorem dX6_pull_59 : decode cX6_pull 59 = .ok (.laload, 1) := by decide +kernel
theorem dX6_pull_60 : decode cX6_pull 60 = .ok (.aload_n 0, 1) := by decide +kernel
theorem dX6_pull_61 : decode cX6_pull 61 = .ok (.getfield 18, 3) := by decide +kernel
theorem dX6_pull_64 : decode cX6_pull 64 = .ok (.getfield 76, 3) := by decide +kernel
theorem dX6_pull_67 : decode cX6_pull 67 = .ok (.iload_n 2, 1) := by decide +kernel
theorem dX6_pull_68 : decode cX6_pull 68 = .ok (.laload, 1) := by decide +kernel
theorem dX6_pull_69 : decode cX6_pull 69 = .ok (.iload_n 3, 1) := by decide +kernel
theorem dX6_pull_70 : decode cX6_pull 70 = .ok (.invokestatic 98, 3) := by decide +kernel
theorem dX6_pull_73 : decode cX6_pull 73 = .ok (.invokevirtual 102, 3) := by decide +kernel
theorem dX6_pull_76 : decode cX6_pull 76 = .ok (.ireturn, 1) := by decide +kernel
set_option maxRecDepth 20000 in
theorem ggX6_swing_X6_isPoint : GoodIn wsX6_swing wsX6_isPoint := goodIn_r _ [6] (by decide +kernel) (by decide +kernel)
set_option maxRecDepth 20000 in
theorem gX6_swing_X6_isPoint : GoodIn wsX6_swing (va_wsS RX6 42 yX6_isPoint wsX6_isPoint) := goodIn_app (goodIn_of _ (by decide +kernel)) ggX6_swing_X6_isPoint
set_option maxRecDepth 20000 in
theorem ggX6_swing_X6_refuse : GoodIn wsX6_swing wsX6_refuse := goodIn_r _ [10, 11, 115, 116, 117, 118, 119, 120, 121] (by decide +kernel) (by decide +kernel)
set_option maxRecDepth 20000 in
theorem gX6_swing_X6_refuse : GoodIn wsX6_swing (wsV RX6 46 RX6 yX6_refuse wsX6_refuse) := goodIn_app (goodIn_of _ (by decide +kernel)) ggX6_swing_X6_refuse
set_option maxRecDepth 20000 in
theorem ggX6_swing_X1_isNone : GoodIn wsX6_swing wsX1_isNone := goodIn_r _ [15, 16, 17] (by decide +kernel) (by decide +kernel)
set_option maxRecDepth 20000 in
theorem gX6_swing_X1_isNone : GoodIn wsX6_swing (va_wsS RX6 50 yX1_isNone wsX1_isNone) := goodIn_app (goodIn_of _ (by decide +kernel)) ggX6_swing_X1_isNone
set_option maxRecDepth 20000 in
theorem ggX6_swing_X1_isInfinite : GoodIn wsX6_swing wsX1_isInfinite := goodIn_r _ [20, 16, 17] (by decide +kernel) (by decide +kernel)
set_option maxRecDepth 20000 in
theorem gX6_swing_X1_isInfinite : GoodIn wsX6_swing (va_wsS RX6 54 yX1_isInfinite wsX1_isInfinite) := goodIn_app (goodIn_of _ (by decide +kernel)) ggX6_swing_X1_isInfinite
set_option maxRecDepth 20000 in
theorem ggX6_swing_X0_sum : GoodIn wsX6_swing wsX0_sum := goodIn_r _ [25, 26, 27, 28, 29, 14, 30, 31, 32, 33, 16, 34, 35, 36, 19, 20, 17, 37, 38, 39, 40, 41, 42, 43, 44, 45, 46, 47, 48, 49, 50, 51, 52, 53, 54, 55, 56, 57, 58, 59, 60, 61, 62, 63, 64, 65, 66, 67, 68, 69, 70, 71, 122, 123, 124, 125, 126] (by decide +kernel) (by decide +kernel)
set_option maxRecDepth 20000 in
theorem gX6_swing_X0_sum : GoodIn wsX6_swing (wsV RX6 79 RX0 yX0_sum wsX0_sum) := goodIn_app (goodIn_of _ (by decide +kernel)) ggX6_swing_X0_sum
set_option maxRecDepth 20000 in
theorem ggX6_swing_X1_opposite : GoodIn wsX6_swing wsX1_opposite := goodIn_r _ [74, 61] (by decide +kernel) (by decide +kernel)
set_option maxRecDepth 20000 in
theorem gX6_swing_X1_opposite : GoodIn wsX6_swing (va_wsS RX6 105 yX1_opposite wsX1_opposite) := goodIn_app (goodIn_of _ (by decide +kernel)) ggX6_swing_X1_opposite
set_option maxRecDepth 20000 in
theorem ggX6_swing_X6_putWalled : GoodIn wsX6_swing wsX6_putWalled := goodIn_r _ [78, 1, 2, 79, 80, 81, 82, 24, 83, 84, 85, 86, 87, 14, 88, 89, 90, 91, 16, 92, 93, 94, 18, 19, 20, 17, 7, 8, 9, 5, 10, 11, 95, 96, 97, 98, 99, 100, 101, 102, 103, 104, 105, 106, 107, 108, 109, 110, 111, 112, 113, 114, 115, 116, 117, 118, 119, 120, 121, 122, 123, 124, 125, 126, 127, 128, 129, 130, 131] (by decide +kernel) (by decide +kernel)
set_option maxRecDepth 20000 in
theorem gX6_swing_X6_putWalled : GoodIn wsX6_swing (wsV RX6 57 RX6 yX6_putWalled wsX6_putWalled) := goodIn_app (goodIn_of _ (by decide +kernel)) ggX6_swing_X6_putWalled
theorem dX6_swing_0 : decode cX6_swing 0 = .ok (.iload_n 1, 1) := by decide +kernel
theorem dX6_swing_1 : decode cX6_swing 1 = .ok (.invokestatic 42, 3) := by decide +kernel
theorem dX6_swing_4 : decode cX6_swing 4 = .ok (.ifCond .ne 9, 3) := by decide +kernel
theorem dX6_swing_7 : decode cX6_swing 7 = .ok (.aload_n 0, 1) := by decide +kernel
theorem dX6_swing_8 : decode cX6_swing 8 = .ok (.iconst 1, 1) := by decide +kernel
theorem dX6_swing_9 : decode cX6_swing 9 = .ok (.invokevirtual 46, 3) := by decide +kernel
theorem dX6_swing_12 : decode cX6_swing 12 = .ok (.ireturn, 1) := by decide +kernel
end
section
theorem dX6_swing_13 : decode cX6_swing 13 = .ok (.lload_n 2, 1) := by decide +kernel
theorem dX6_swing_14 : decode cX6_swing 14 = .ok (.invokestatic 50, 3) := by decide +kernel
theorem dX6_swing_17 : decode cX6_swing 17 = .ok (.ifCond .eq 9, 3) := by decide +kernel
theorem dX6_swing_20 : decode cX6_swing 20 = .ok (.aload_n 0, 1) := by decide +kernel
theorem dX6_swing_21 : decode cX6_swing 21 = .ok (.iconst 2, 1) := by decide +kernel
theorem dX6_swing_22 : decode cX6_swing 22 = .ok (.invokevirtual 46, 3) := by decide +kernel
theorem dX6_swing_25 : decode cX6_swing 25 = .ok (.ireturn, 1) := by decide +kernel
theorem dX6_swing_26 : decode cX6_swing 26 = .ok (.lload_n 2, 1) := by decide +kernel
theorem dX6_swing_27 : decode cX6_swing 27 = .ok (.invokestatic 54, 3) := by decide +kernel
theorem dX6_swing_30 : decode cX6_swing 30 = .ok (.ifCond .eq 9, 3) := by decide +kernel
theorem dX6_swing_33 : decode cX6_swing 33 = .ok (.aload_n 0, 1) := by decide +kernel
theorem dX6_swing_34 : decode cX6_swing 34 = .ok (.iconst 3, 1) := by decide +kernel
theorem dX6_swing_35 : decode cX6_swing 35 = .ok (.invokevirtual 46, 3) := by decide +kernel
theorem dX6_swing_38 : decode cX6_swing 38 = .ok (.ireturn, 1) := by decide +kernel
theorem dX6_swing_39 : decode cX6_swing 39 = .ok (.aload_n 0, 1) := by decide +kernel
theorem dX6_swing_40 : decode cX6_swing 40 = .ok (.getfield 12, 3) := by decide +kernel
theorem dX6_swing_43 : decode cX6_swing 43 = .ok (.lload_n 2, 1) := by decide +kernel
theorem dX6_swing_44 : decode cX6_swing 44 = .ok (.lload_n 2, 1) := by decide +kernel
theorem dX6_swing_45 : decode cX6_swing 45 = .ok (.invokevirtual 79, 3) := by decide +kernel
theorem dX6_swing_48 : decode cX6_swing 48 = .ok (.lstore 4, 2) := by decide +kernel
theorem dX6_swing_50 : decode cX6_swing 50 = .ok (.aload_n 0, 1) := by decide +kernel
theorem dX6_swing_51 : decode cX6_swing 51 = .ok (.iload_n 1, 1) := by decide +kernel
theorem dX6_swing_52 : decode cX6_swing 52 = .ok (.aload_n 0, 1) := by decide +kernel
theorem dX6_swing_53 : decode cX6_swing 53 = .ok (.getfield 12, 3) := by decide +kernel
theorem dX6_swing_56 : decode cX6_swing 56 = .ok (.lload 4, 2) := by decide +kernel
theorem dX6_swing_58 : decode cX6_swing 58 = .ok (.aload_n 0, 1) := by decide +kernel
theorem dX6_swing_59 : decode cX6_swing 59 = .ok (.getfield 12, 3) := by decide +kernel
theorem dX6_swing_62 : decode cX6_swing 62 = .ok (.getfield 76, 3) := by decide +kernel
theorem dX6_swing_65 : decode cX6_swing 65 = .ok (.iload_n 1, 1) := by decide +kernel
theorem dX6_swing_66 : decode cX6_swing 66 = .ok (.laload, 1) := by decide +kernel
theorem dX6_swing_67 : decode cX6_swing 67 = .ok (.invokestatic 105, 3) := by decide +kernel
theorem dX6_swing_70 : decode cX6_swing 70 = .ok (.invokevirtual 79, 3) := by decide +kernel
theorem dX6_swing_73 : decode cX6_swing 73 = .ok (.aload_n 0, 1) := by decide +kernel
theorem dX6_swing_74 : decode cX6_swing 74 = .ok (.getfield 18, 3) := by decide +kernel
theorem dX6_swing_77 : decode cX6_swing 77 = .ok (.getfield 76, 3) := by decide +kernel
theorem dX6_swing_80 : decode cX6_swing 80 = .ok (.iload_n 1, 1) := by decide +kernel
theorem dX6_swing_81 : decode cX6_swing 81 = .ok (.laload, 1) := by decide +kernel
theorem dX6_swing_82 : decode cX6_swing 82 = .ok (.invokestatic 105, 3) := by decide +kernel
theorem dX6_swing_85 : decode cX6_swing 85 = .ok (.invokevirtual 57, 3) := by decide +kernel
theorem dX6_swing_88 : decode cX6_swing 88 = .ok (.ireturn, 1) := by decide +kernel
set_option maxRecDepth 20000 in
theorem ggX6_guide_X6_refuse : GoodIn wsX6_guide wsX6_refuse := goodIn_r _ [6, 7, 19, 20, 21, 22, 23, 24, 25] (by decide +kernel) (by decide +kernel)
set_option maxRecDepth 20000 in
theorem gX6_guide_X6_refuse : GoodIn wsX6_guide (wsV RX6 46 RX6 yX6_refuse wsX6_refuse) := goodIn_app (goodIn_of _ (by decide +kernel)) ggX6_guide_X6_refuse
set_option maxRecDepth 20000 in
theorem ggX6_guide_X1_isNone : GoodIn wsX6_guide wsX1_isNone := goodIn_r _ [11, 12, 13] (by decide +kernel) (by decide +kernel)
set_option maxRecDepth 20000 in
theorem gX6_guide_X1_isNone : GoodIn wsX6_guide (va_wsS RX6 50 yX1_isNone wsX1_isNone) := goodIn_app (goodIn_of _ (by decide +kernel)) ggX6_guide_X1_isNone
set_option maxRecDepth 20000 in
theorem ggX6_guide_X6_finish : GoodIn wsX6_guide wsX6_finish := goodIn_r _ [17, 18, 19, 20, 21, 22, 23, 24, 25] (by decide +kernel) (by decide +kernel)
set_option maxRecDepth 20000 in
theorem gX6_guide_X6_finish : GoodIn wsX6_guide (wsV RX6 72 RX6 yX6_finish wsX6_finish) := goodIn_app (goodIn_of _ (by decide +kernel)) ggX6_guide_X6_finish
theorem dX6_guide_0 : decode cX6_guide 0 = .ok (.iload_n 1, 1) := by decide +kernel
theorem dX6_guide_1 : decode cX6_guide 1 = .ok (.ifCond .lt 8, 3) := by decide +kernel
theorem dX6_guide_4 : decode cX6_guide 4 = .ok (.iload_n 1, 1) := by decide +kernel
theorem dX6_guide_5 : decode cX6_guide 5 = .ok (.iconst 4, 1) := by decide +kernel
theorem dX6_guide_6 : decode cX6_guide 6 = .ok (.if_icmp .lt 9, 3) := by decide +kernel
theorem dX6_guide_9 : decode cX6_guide 9 = .ok (.aload_n 0, 1) := by decide +kernel
theorem dX6_guide_10 : decode cX6_guide 10 = .ok (.iconst 1, 1) := by decide +kernel
theorem dX6_guide_11 : decode cX6_guide 11 = .ok (.invokevirtual 46, 3) := by decide +kernel
theorem dX6_guide_14 : decode cX6_guide 14 = .ok (.ireturn, 1) := by decide +kernel
theorem dX6_guide_15 : decode cX6_guide 15 = .ok (.lload_n 2, 1) := by decide +kernel
theorem dX6_guide_16 : decode cX6_guide 16 = .ok (.invokestatic 50, 3) := by decide +kernel
theorem dX6_guide_19 : decode cX6_guide 19 = .ok (.ifCond .eq 9, 3) := by decide +kernel
theorem dX6_guide_22 : decode cX6_guide 22 = .ok (.aload_n 0, 1) := by decide +kernel
theorem dX6_guide_23 : decode cX6_guide 23 = .ok (.iconst 2, 1) := by decide +kernel
theorem dX6_guide_24 : decode cX6_guide 24 = .ok (.invokevirtual 46, 3) := by decide +kernel
theorem dX6_guide_27 : decode cX6_guide 27 = .ok (.ireturn, 1) := by decide +kernel
theorem dX6_guide_28 : decode cX6_guide 28 = .ok (.aload_n 0, 1) := by decide +kernel
theorem dX6_guide_29 : decode cX6_guide 29 = .ok (.getfield 28, 3) := by decide +kernel
theorem dX6_guide_32 : decode cX6_guide 32 = .ok (.iload_n 1, 1) := by decide +kernel
theorem dX6_guide_33 : decode cX6_guide 33 = .ok (.lload_n 2, 1) := by decide +kernel
theorem dX6_guide_34 : decode cX6_guide 34 = .ok (.lastore, 1) := by decide +kernel
theorem dX6_guide_35 : decode cX6_guide 35 = .ok (.aload_n 0, 1) := by decide +kernel
theorem dX6_guide_36 : decode cX6_guide 36 = .ok (.invokevirtual 72, 3) := by decide +kernel
theorem dX6_guide_39 : decode cX6_guide 39 = .ok (.ireturn, 1) := by decide +kernel
set_option maxRecDepth 20000 in
theorem ggX6_stick_X6_isPoint : GoodIn wsX6_stick wsX6_isPoint := goodIn_r _ [7] (by decide +kernel) (by decide +kernel)
set_option maxRecDepth 20000 in
theorem gX6_stick_X6_isPoint : GoodIn wsX6_stick (va_wsS RX6 42 yX6_isPoint wsX6_isPoint) := goodIn_app (goodIn_of _ (by decide +kernel)) ggX6_stick_X6_isPoint
set_option maxRecDepth 20000 in
theorem ggX6_stick_X6_refuse : GoodIn wsX6_stick wsX6_refuse := goodIn_r _ [11, 12, 103, 104, 105, 106, 107, 108, 109] (by decide +kernel) (by decide +kernel)
set_option maxRecDepth 20000 in
theorem gX6_stick_X6_refuse : GoodIn wsX6_stick (wsV RX6 46 RX6 yX6_refuse wsX6_refuse) := goodIn_app (goodIn_of _ (by decide +kernel)) ggX6_stick_X6_refuse
set_option maxRecDepth 20000 in
theorem ggX6_stick_X1_isNone : GoodIn wsX6_stick wsX1_isNone := goodIn_r _ [16, 17, 18] (by decide +kernel) (by decide +kernel)
set_option maxRecDepth 20000 in
theorem gX6_stick_X1_isNone : GoodIn wsX6_stick (va_wsS RX6 50 yX1_isNone wsX1_isNone) := goodIn_app (goodIn_of _ (by decide +kernel)) ggX6_stick_X1_isNone
set_option maxRecDepth 20000 in
theorem ggX6_stick_X1_value : GoodIn wsX6_stick wsX1_value := goodIn_r _ [21, 22, 23, 15, 24, 17, 25, 26, 27, 28, 29, 18, 30, 31, 32, 33, 34, 35, 36, 37, 38, 39, 40, 41, 42, 43, 44, 45, 46, 47, 48, 49, 50] (by decide +kernel) (by decide +kernel)
set_option maxRecDepth 20000 in
theorem gX6_stick_X1_value : GoodIn wsX6_stick (va_wsS RX6 109 yX1_value wsX1_value) := goodIn_app (goodIn_of _ (by decide +kernel)) ggX6_stick_X1_value
set_option maxRecDepth 20000 in
theorem ggX6_stick_X6_nearestGuide : GoodIn wsX6_stick wsX6_nearestGuide := goodIn_r _ [54, 2, 1, 55, 28, 15, 29, 17, 18, 56, 57, 58, 59, 60, 61, 62, 20, 21, 22, 23, 24, 25, 26, 27, 30, 31, 32, 33, 34, 35, 36, 37, 38, 39, 40, 41, 42, 43, 44, 45, 46, 47, 48, 49, 50, 103, 104, 105, 106, 107, 108, 109, 110, 111, 112, 113, 114] (by decide +kernel) (by decide +kernel)
set_option maxRecDepth 20000 in
theorem gX6_stick_X6_nearestGuide : GoodIn wsX6_stick (wsV RX6 113 RX6 yX6_nearestGuide wsX6_nearestGuide) := goodIn_app (goodIn_of _ (by decide +kernel)) ggX6_stick_X6_nearestGuide
set_option maxRecDepth 20000 in
theorem ggX6_stick_X0_apart : GoodIn wsX6_stick wsX0_apart := goodIn_r _ [60, 61, 62, 20, 15, 21, 22, 23, 24, 17, 25, 26, 27, 28, 29, 18, 30, 31, 32, 33, 34, 35, 36, 37, 38, 39, 40, 41, 42, 43, 44, 45, 46, 47, 48, 49, 50, 110, 111, 112, 113, 114] (by decide +kernel) (by decide +kernel)
set_option maxRecDepth 20000 in
theorem gX6_stick_X0_apart : GoodIn wsX6_stick (wsV RX6 117 RX0 yX0_apart wsX0_apart) := goodIn_app (goodIn_of _ (by decide +kernel)) ggX6_stick_X0_apart
set_option maxRecDepth 20000 in
theorem ggX6_stick_X6_putWalled : GoodIn wsX6_stick wsX6_putWalled := goodIn_r _ [66, 1, 3, 67, 68, 69, 70, 59, 71, 72, 73, 74, 75, 15, 76, 77, 78, 79, 17, 80, 81, 82, 55, 28, 29, 18, 8, 9, 10, 6, 11, 12, 83, 84, 85, 86, 87, 88, 89, 90, 91, 92, 93, 94, 95, 96, 97, 98, 99, 100, 101, 102, 103, 104, 105, 106, 107, 108, 109, 110, 111, 112, 113, 114, 115, 116, 117, 118, 119] (by decide +kernel) (by decide +kernel)
set_option maxRecDepth 20000 in
theorem gX6_stick_X6_putWalled : GoodIn wsX6_stick (wsV RX6 57 RX6 yX6_putWalled wsX6_putWalled) := goodIn_app (goodIn_of _ (by decide +kernel)) ggX6_stick_X6_putWalled
theorem dX6_stick_0 : decode cX6_stick 0 = .ok (.iload_n 1, 1) := by decide +kernel
theorem dX6_stick_1 : decode cX6_stick 1 = .ok (.invokestatic 42, 3) := by decide +kernel
theorem dX6_stick_4 : decode cX6_stick 4 = .ok (.ifCond .ne 9, 3) := by decide +kernel
theorem dX6_stick_7 : decode cX6_stick 7 = .ok (.aload_n 0, 1) := by decide +kernel
theorem dX6_stick_8 : decode cX6_stick 8 = .ok (.iconst 1, 1) := by decide +kernel
theorem dX6_stick_9 : decode cX6_stick 9 = .ok (.invokevirtual 46, 3) := by decide +kernel
theorem dX6_stick_12 : decode cX6_stick 12 = .ok (.ireturn, 1) := by decide +kernel
theorem dX6_stick_13 : decode cX6_stick 13 = .ok (.lload_n 2, 1) := by decide +kernel
theorem dX6_stick_14 : decode cX6_stick 14 = .ok (.invokestatic 50, 3) := by decide +kernel
theorem dX6_stick_17 : decode cX6_stick 17 = .ok (.ifCond .eq 9, 3) := by decide +kernel
theorem dX6_stick_20 : decode cX6_stick 20 = .ok (.aload_n 0, 1) := by decide +kernel
theorem dX6_stick_21 : decode cX6_stick 21 = .ok (.iconst 2, 1) := by decide +kernel
theorem dX6_stick_22 : decode cX6_stick 22 = .ok (.invokevirtual 46, 3) := by decide +kernel
theorem dX6_stick_25 : decode cX6_stick 25 = .ok (.ireturn, 1) := by decide +kernel
theorem dX6_stick_26 : decode cX6_stick 26 = .ok (.lload_n 2, 1) := by decide +kernel
theorem dX6_stick_27 : decode cX6_stick 27 = .ok (.invokestatic 109, 3) := by decide +kernel
theorem dX6_stick_30 : decode cX6_stick 30 = .ok (.dconst 0, 1) := by decide +kernel
theorem dX6_stick_31 : decode cX6_stick 31 = .ok (.dcmp .g, 1) := by decide +kernel
theorem dX6_stick_32 : decode cX6_stick 32 = .ok (.ifCond .ge 9, 3) := by decide +kernel
theorem dX6_stick_35 : decode cX6_stick 35 = .ok (.aload_n 0, 1) := by decide +kernel
theorem dX6_stick_36 : decode cX6_stick 36 = .ok (.iconst 4, 1) := by decide +kernel
theorem dX6_stick_37 : decode cX6_stick 37 = .ok (.invokevirtual 46, 3) := by decide +kernel
theorem dX6_stick_40 : decode cX6_stick 40 = .ok (.ireturn, 1) := by decide +kernel
theorem dX6_stick_41 : decode cX6_stick 41 = .ok (.aload_n 0, 1) := by decide +kernel
theorem dX6_stick_42 : decode cX6_stick 42 = .ok (.aload_n 0, 1) := by decide +kernel
theorem dX6_stick_43 : decode cX6_stick 43 = .ok (.getfield 12, 3) := by decide +kernel
theorem dX6_stick_46 : decode cX6_stick 46 = .ok (.getfield 76, 3) := by decide +kernel
theorem dX6_stick_49 : decode cX6_stick 49 = .ok (.iload_n 1, 1) := by decide +kernel
theorem dX6_stick_50 : decode cX6_stick 50 = .ok (.laload, 1) := by decide +kernel
theorem dX6_stick_51 : decode cX6_stick 51 = .ok (.invokevirtual 113, 3) := by decide +kernel
theorem dX6_stick_54 : decode cX6_stick 54 = .ok (.istore 4, 2) := by decide +kernel
theorem dX6_stick_56 : decode cX6_stick 56 = .ok (.iload 4, 2) := by decide +kernel
theorem dX6_stick_58 : decode cX6_stick 58 = .ok (.iconst (-1), 1) := by decide +kernel
theorem dX6_stick_59 : decode cX6_stick 59 = .ok (.if_icmp .eq 34, 3) := by decide +kernel
theorem dX6_stick_62 : decode cX6_stick 62 = .ok (.aload_n 0, 1) := by decide +kernel
theorem dX6_stick_63 : decode cX6_stick 63 = .ok (.getfield 12, 3) := by decide +kernel
theorem dX6_stick_66 : decode cX6_stick 66 = .ok (.aload_n 0, 1) := by decide +kernel
theorem dX6_stick_67 : decode cX6_stick 67 = .ok (.getfield 12, 3) := by decide +kernel
theorem dX6_stick_70 : decode cX6_stick 70 = .ok (.getfield 76, 3) := by decide +kernel
theorem dX6_stick_73 : decode cX6_stick 73 = .ok (.iload_n 1, 1) := by decide +kernel
theorem dX6_stick_74 : decode cX6_stick 74 = .ok (.laload, 1) := by decide +kernel
theorem dX6_stick_75 : decode cX6_stick 75 = .ok (.aload_n 0, 1) := by decide +kernel
theorem dX6_stick_76 : decode cX6_stick 76 = .ok (.getfield 28, 3) := by decide +kernel
theorem dX6_stick_79 : decode cX6_stick 79 = .ok (.iload 4, 2) := by decide +kernel
theorem dX6_stick_81 : decode cX6_stick 81 = .ok (.laload, 1) := by decide +kernel
theorem dX6_stick_82 : decode cX6_stick 82 = .ok (.invokevirtual 117, 3) := by decide +kernel
theorem dX6_stick_85 : decode cX6_stick 85 = .ok (.lload_n 2, 1) := by decide +kernel
theorem dX6_stick_86 : decode cX6_stick 86 = .ok (.invokestatic 109, 3) := by decide +kernel
theorem dX6_stick_89 : decode cX6_stick 89 = .ok (.dcmp .l, 1) := by decide +kernel
theorem dX6_stick_90 : decode cX6_stick 90 = .ok (.ifCond .le 10, 3) := by decide +kernel
theorem dX6_stick_93 : decode cX6_stick 93 = .ok (.aload_n 0, 1) := by decide +kernel
theorem dX6_stick_94 : decode cX6_stick 94 = .ok (.bipush 6, 2) := by decide +kernel
theorem dX6_stick_96 : decode cX6_stick 96 = .ok (.invokevirtual 46, 3) := by decide +kernel
theorem dX6_stick_99 : decode cX6_stick 99 = .ok (.ireturn, 1) := by decide +kernel
theorem dX6_stick_100 : decode cX6_stick 100 = .ok (.aload_n 0, 1) := by decide +kernel
theorem dX6_stick_101 : decode cX6_stick 101 = .ok (.iload_n 1, 1) := by decide +kernel
theorem dX6_stick_102 : decode cX6_stick 102 = .ok (.aload_n 0, 1) := by decide +kernel
theorem dX6_stick_103 : decode cX6_stick 103 = .ok (.getfield 28, 3) := by decide +kernel
theorem dX6_stick_106 : decode cX6_stick 106 = .ok (.iload 4, 2) := by decide +kernel
theorem dX6_stick_108 : decode cX6_stick 108 = .ok (.laload, 1) := by decide +kernel
theorem dX6_stick_109 : decode cX6_stick 109 = .ok (.aload_n 0, 1) := by decide +kernel
theorem dX6_stick_110 : decode cX6_stick 110 = .ok (.getfield 18, 3) := by decide +kernel
theorem dX6_stick_113 : decode cX6_stick 113 = .ok (.getfield 76, 3) := by decide +kernel
theorem dX6_stick_116 : decode cX6_stick 116 = .ok (.iload_n 1, 1) := by decide +kernel
theorem dX6_stick_117 : decode cX6_stick 117 = .ok (.laload, 1) := by decide +kernel
theorem dX6_stick_118 : decode cX6_stick 118 = .ok (.invokevirtual 57, 3) := by decide +kernel
theorem dX6_stick_121 : decode cX6_stick 121 = .ok (.ireturn, 1) := by decide +kernel
set_option maxRecDepth 20000 in
theorem ggX6_undo_X4_takeLatest : GoodIn wsX6_undo wsX4_takeLatest := goodIn_r _ [8, 9, 10, 18, 19, 20, 21, 22] (by decide +kernel) (by decide +kernel)
set_option maxRecDepth 20000 in
theorem gX6_undo_X4_takeLatest : GoodIn wsX6_undo (wsV RX6 125 RX4 yX4_takeLatest wsX4_takeLatest) := goodIn_app (goodIn_of _ (by decide +kernel)) ggX6_undo_X4_takeLatest
theorem dX6_undo_0 : decode cX6_undo 0 = .ok (.aload_n 0, 1) := by decide +kernel
theorem dX6_undo_1 : decode cX6_undo 1 = .ok (.getfield 24, 3) := by decide +kernel
theorem dX6_undo_4 : decode cX6_undo 4 = .ok (.getfield 121, 3) := by decide +kernel
theorem dX6_undo_7 : decode cX6_undo 7 = .ok (.ifCond .ne 5, 3) := by decide +kernel
theorem dX6_undo_10 : decode cX6_undo 10 = .ok (.iconst (-1), 1) := by decide +kernel
theorem dX6_undo_11 : decode cX6_undo 11 = .ok (.ireturn, 1) := by decide +kernel
theorem dX6_undo_12 : decode cX6_undo 12 = .ok (.aload_n 0, 1) := by decide +kernel
theorem dX6_undo_13 : decode cX6_undo 13 = .ok (.getfield 24, 3) := by decide +kernel
theorem dX6_undo_16 : decode cX6_undo 16 = .ok (.invokevirtual 125, 3) := by decide +kernel
theorem dX6_undo_19 : decode cX6_undo 19 = .ok (.istore_n 1, 1) := by decide +kernel
theorem dX6_undo_20 : decode cX6_undo 20 = .ok (.aload_n 0, 1) := by decide +kernel
theorem dX6_undo_21 : decode cX6_undo 21 = .ok (.getfield 24, 3) := by decide +kernel
theorem dX6_undo_24 : decode cX6_undo 24 = .ok (.getfield 128, 3) := by decide +kernel
theorem dX6_undo_27 : decode cX6_undo 27 = .ok (.iload_n 1, 1) := by decide +kernel
theorem dX6_undo_28 : decode cX6_undo 28 = .ok (.iaload, 1) := by decide +kernel
theorem dX6_undo_29 : decode cX6_undo 29 = .ok (.istore_n 2, 1) := by decide +kernel
theorem dX6_undo_30 : decode cX6_undo 30 = .ok (.aload_n 0, 1) := by decide +kernel
theorem dX6_undo_31 : decode cX6_undo 31 = .ok (.getfield 12, 3) := by decide +kernel
theorem dX6_undo_34 : decode cX6_undo 34 = .ok (.getfield 76, 3) := by decide +kernel
theorem dX6_undo_37 : decode cX6_undo 37 = .ok (.iload_n 2, 1) := by decide +kernel
theorem dX6_undo_38 : decode cX6_undo 38 = .ok (.aload_n 0, 1) := by decide +kernel
theorem dX6_undo_39 : decode cX6_undo 39 = .ok (.getfield 24, 3) := by decide +kernel
theorem dX6_undo_42 : decode cX6_undo 42 = .ok (.getfield 132, 3) := by decide +kernel
theorem dX6_undo_45 : decode cX6_undo 45 = .ok (.iload_n 1, 1) := by decide +kernel
theorem dX6_undo_46 : decode cX6_undo 46 = .ok (.laload, 1) := by decide +kernel
theorem dX6_undo_47 : decode cX6_undo 47 = .ok (.lastore, 1) := by decide +kernel
theorem dX6_undo_48 : decode cX6_undo 48 = .ok (.aload_n 0, 1) := by decide +kernel
theorem dX6_undo_49 : decode cX6_undo 49 = .ok (.getfield 18, 3) := by decide +kernel
theorem dX6_undo_52 : decode cX6_undo 52 = .ok (.getfield 76, 3) := by decide +kernel
theorem dX6_undo_55 : decode cX6_undo 55 = .ok (.iload_n 2, 1) := by decide +kernel
theorem dX6_undo_56 : decode cX6_undo 56 = .ok (.aload_n 0, 1) := by decide +kernel
theorem dX6_undo_57 : decode cX6_undo 57 = .ok (.getfield 24, 3) := by decide +kernel
theorem dX6_undo_60 : decode cX6_undo 60 = .ok (.getfield 134, 3) := by decide +kernel
theorem dX6_undo_63 : decode cX6_undo 63 = .ok (.iload_n 1, 1) := by decide +kernel
theorem dX6_undo_64 : decode cX6_undo 64 = .ok (.laload, 1) := by decide +kernel
theorem dX6_undo_65 : decode cX6_undo 65 = .ok (.lastore, 1) := by decide +kernel
theorem dX6_undo_66 : decode cX6_undo 66 = .ok (.iload_n 2, 1) := by decide +kernel
theorem dX6_undo_67 : decode cX6_undo 67 = .ok (.ireturn, 1) := by decide +kernel
set_option maxRecDepth 20000 in
theorem ggX6_x_X6_isPoint : GoodIn wsX6_x wsX6_isPoint := goodIn_r _ [5] (by decide +kernel) (by decide +kernel)
set_option maxRecDepth 20000 in
theorem gX6_x_X6_isPoint : GoodIn wsX6_x (va_wsS RX6 42 yX6_isPoint wsX6_isPoint) := goodIn_app (goodIn_of _ (by decide +kernel)) ggX6_x_X6_isPoint
theorem dX6_x_0 : decode cX6_x 0 = .ok (.iload_n 1, 1) := by decide +kernel
theorem dX6_x_1 : decode cX6_x 1 = .ok (.invokestatic 42, 3) := by decide +kernel
theorem dX6_x_4 : decode cX6_x 4 = .ok (.ifCond .eq 15, 3) := by decide +kernel
theorem dX6_x_7 : decode cX6_x 7 = .ok (.aload_n 0, 1) := by decide +kernel
theorem dX6_x_8 : decode cX6_x 8 = .ok (.getfield 12, 3) := by decide +kernel
theorem dX6_x_11 : decode cX6_x 11 = .ok (.getfield 76, 3) := by decide +kernel
theorem dX6_x_14 : decode cX6_x 14 = .ok (.iload_n 1, 1) := by decide +kernel
theorem dX6_x_15 : decode cX6_x 15 = .ok (.laload, 1) := by decide +kernel
theorem dX6_x_16 : decode cX6_x 16 = .ok (.goto 4, 3) := by decide +kernel
theorem dX6_x_19 : decode cX6_x 19 = .ok (.lconst 0, 1) := by decide +kernel
theorem dX6_x_20 : decode cX6_x 20 = .ok (.lreturn, 1) := by decide +kernel
set_option maxRecDepth 20000 in
theorem ggX6_y_X6_isPoint : GoodIn wsX6_y wsX6_isPoint := goodIn_r _ [5] (by decide +kernel) (by decide +kernel)
set_option maxRecDepth 20000 in
theorem gX6_y_X6_isPoint : GoodIn wsX6_y (va_wsS RX6 42 yX6_isPoint wsX6_isPoint) := goodIn_app (goodIn_of _ (by decide +kernel)) ggX6_y_X6_isPoint
set_option maxRecDepth 20000 in
theorem ggX6_y_X3_narrowed : GoodIn wsX6_y wsX3_narrowed := goodIn_r _ [9, 10, 11, 12, 13, 14, 15, 16, 17, 18, 19, 20, 21, 22, 23, 24, 25, 26, 27, 28, 29, 30, 31, 32, 33, 34, 35, 36, 37, 38, 39, 40, 41, 42, 43, 44, 45, 46] (by decide +kernel) (by decide +kernel)
set_option maxRecDepth 20000 in
theorem gX6_y_X3_narrowed : GoodIn wsX6_y (va_wsS RX6 136 yX3_narrowed wsX3_narrowed) := goodIn_app (goodIn_of _ (by decide +kernel)) ggX6_y_X3_narrowed
theorem dX6_y_0 : decode cX6_y 0 = .ok (.iload_n 1, 1) := by decide +kernel
theorem dX6_y_1 : decode cX6_y 1 = .ok (.invokestatic 42, 3) := by decide +kernel
theorem dX6_y_4 : decode cX6_y 4 = .ok (.ifCond .eq 18, 3) := by decide +kernel
theorem dX6_y_7 : decode cX6_y 7 = .ok (.aload_n 0, 1) := by decide +kernel
theorem dX6_y_8 : decode cX6_y 8 = .ok (.getfield 18, 3) := by decide +kernel
theorem dX6_y_11 : decode cX6_y 11 = .ok (.getfield 76, 3) := by decide +kernel
theorem dX6_y_14 : decode cX6_y 14 = .ok (.iload_n 1, 1) := by decide +kernel
theorem dX6_y_15 : decode cX6_y 15 = .ok (.laload, 1) := by decide +kernel
theorem dX6_y_16 : decode cX6_y 16 = .ok (.invokestatic 136, 3) := by decide +kernel
theorem dX6_y_19 : decode cX6_y 19 = .ok (.goto 4, 3) := by decide +kernel
theorem dX6_y_22 : decode cX6_y 22 = .ok (.iconst 0, 1) := by decide +kernel
theorem dX6_y_23 : decode cX6_y 23 = .ok (.ireturn, 1) := by decide +kernel
set_option maxRecDepth 20000 in
theorem ggX6_side_X6_isPoint : GoodIn wsX6_side wsX6_isPoint := goodIn_r _ [5] (by decide +kernel) (by decide +kernel)
set_option maxRecDepth 20000 in
theorem gX6_side_X6_isPoint : GoodIn wsX6_side (va_wsS RX6 42 yX6_isPoint wsX6_isPoint) := goodIn_app (goodIn_of _ (by decide +kernel)) ggX6_side_X6_isPoint
set_option maxRecDepth 20000 in
theorem ggX6_side_X1_unit : GoodIn wsX6_side wsX1_unit := goodIn_r _ [9, 10, 11, 12, 13, 8, 14, 15] (by decide +kernel) (by decide +kernel)
set_option maxRecDepth 20000 in
theorem gX6_side_X1_unit : GoodIn wsX6_side (va_wsS RX6 139 yX1_unit wsX1_unit) := goodIn_app (goodIn_of _ (by decide +kernel)) ggX6_side_X1_unit
theorem dX6_side_0 : decode cX6_side 0 = .ok (.iload_n 1, 1) := by decide +kernel
theorem dX6_side_1 : decode cX6_side 1 = .ok (.invokestatic 42, 3) := by decide +kernel
theorem dX6_side_4 : decode cX6_side 4 = .ok (.ifCond .eq 18, 3) := by decide +kernel
theorem dX6_side_7 : decode cX6_side 7 = .ok (.aload_n 0, 1) := by decide +kernel
theorem dX6_side_8 : decode cX6_side 8 = .ok (.getfield 12, 3) := by decide +kernel
theorem dX6_side_11 : decode cX6_side 11 = .ok (.getfield 76, 3) := by decide +kernel
theorem dX6_side_14 : decode cX6_side 14 = .ok (.iload_n 1, 1) := by decide +kernel
theorem dX6_side_15 : decode cX6_side 15 = .ok (.laload, 1) := by decide +kernel
theorem dX6_side_16 : decode cX6_side 16 = .ok (.invokestatic 139, 3) := by decide +kernel
theorem dX6_side_19 : decode cX6_side 19 = .ok (.goto 4, 3) := by decide +kernel
theorem dX6_side_22 : decode cX6_side 22 = .ok (.lconst 0, 1) := by decide +kernel
theorem dX6_side_23 : decode cX6_side 23 = .ok (.lreturn, 1) := by decide +kernel
set_option maxRecDepth 20000 in
theorem ggX6_lift_X6_isPoint : GoodIn wsX6_lift wsX6_isPoint := goodIn_r _ [5] (by decide +kernel) (by decide +kernel)
set_option maxRecDepth 20000 in
theorem gX6_lift_X6_isPoint : GoodIn wsX6_lift (va_wsS RX6 42 yX6_isPoint wsX6_isPoint) := goodIn_app (goodIn_of _ (by decide +kernel)) ggX6_lift_X6_isPoint
set_option maxRecDepth 20000 in
theorem ggX6_lift_X1_unit : GoodIn wsX6_lift wsX1_unit := goodIn_r _ [9, 10, 11, 12, 13, 8, 14, 15] (by decide +kernel) (by decide +kernel)
set_option maxRecDepth 20000 in
theorem gX6_lift_X1_unit : GoodIn wsX6_lift (va_wsS RX6 139 yX1_unit wsX1_unit) := goodIn_app (goodIn_of _ (by decide +kernel)) ggX6_lift_X1_unit
set_option maxRecDepth 20000 in
theorem ggX6_lift_X3_narrowed : GoodIn wsX6_lift wsX3_narrowed := goodIn_r _ [19, 20, 21, 22, 23, 24, 25, 26, 8, 27, 10, 28, 29, 30, 31, 32, 33, 34, 35, 36, 37, 38, 39, 40, 41, 42, 43, 44, 45, 46, 47, 48, 49, 50, 51, 52, 53, 54] (by decide +kernel) (by decide +kernel)
set_option maxRecDepth 20000 in
theorem gX6_lift_X3_narrowed : GoodIn wsX6_lift (va_wsS RX6 136 yX3_narrowed wsX3_narrowed) := goodIn_app (goodIn_of _ (by decide +kernel)) ggX6_lift_X3_narrowed
theorem dX6_lift_0 : decode cX6_lift 0 = .ok (.iload_n 1, 1) := by decide +kernel
theorem dX6_lift_1 : decode cX6_lift 1 = .ok (.invokestatic 42, 3) := by decide +kernel
theorem dX6_lift_4 : decode cX6_lift 4 = .ok (.ifCond .eq 21, 3) := by decide +kernel
theorem dX6_lift_7 : decode cX6_lift 7 = .ok (.aload_n 0, 1) := by decide +kernel
theorem dX6_lift_8 : decode cX6_lift 8 = .ok (.getfield 18, 3) := by decide +kernel
theorem dX6_lift_11 : decode cX6_lift 11 = .ok (.getfield 76, 3) := by decide +kernel
theorem dX6_lift_14 : decode cX6_lift 14 = .ok (.iload_n 1, 1) := by decide +kernel
theorem dX6_lift_15 : decode cX6_lift 15 = .ok (.laload, 1) := by decide +kernel
theorem dX6_lift_16 : decode cX6_lift 16 = .ok (.invokestatic 139, 3) := by decide +kernel
theorem dX6_lift_19 : decode cX6_lift 19 = .ok (.invokestatic 136, 3) := by decide +kernel
theorem dX6_lift_22 : decode cX6_lift 22 = .ok (.goto 4, 3) := by decide +kernel
theorem dX6_lift_25 : decode cX6_lift 25 = .ok (.iconst 0, 1) := by decide +kernel
theorem dX6_lift_26 : decode cX6_lift 26 = .ok (.ireturn, 1) := by decide +kernel
set_option maxRecDepth 20000 in
theorem ggX6_far_X6_isPoint : GoodIn wsX6_far wsX6_isPoint := goodIn_r _ [4] (by decide +kernel) (by decide +kernel)
set_option maxRecDepth 20000 in
theorem gX6_far_X6_isPoint : GoodIn wsX6_far (va_wsS RX6 42 yX6_isPoint wsX6_isPoint) := goodIn_app (goodIn_of _ (by decide +kernel)) ggX6_far_X6_isPoint
set_option maxRecDepth 20000 in
theorem ggX6_far_X6_distance : GoodIn wsX6_far wsX6_distance := goodIn_r _ [8, 9, 10, 11, 12, 13, 14, 15, 16, 17, 18, 19, 20, 21, 22, 23, 24, 25, 26, 27, 28, 29, 30, 31, 32, 33, 34, 35, 36, 37, 38, 39, 40, 41, 42, 43, 44, 45, 46, 47, 48, 49, 50, 51, 62, 63, 64, 65, 66, 67, 68, 69, 70, 71, 72, 73] (by decide +kernel) (by decide +kernel)
set_option maxRecDepth 20000 in
theorem gX6_far_X6_distance : GoodIn wsX6_far (wsV RX6 142 RX6 yX6_distance wsX6_distance) := goodIn_app (goodIn_of _ (by decide +kernel)) ggX6_far_X6_distance
set_option maxRecDepth 20000 in
theorem ggX6_far_X1_ofSize : GoodIn wsX6_far wsX1_ofSize := goodIn_r _ [54, 30, 55, 31, 32, 33, 34, 35, 56, 57, 58, 39, 40, 41, 42, 43, 44, 45, 46, 47, 48, 49, 50, 51, 59, 60, 61, 36, 37, 38] (by decide +kernel) (by decide +kernel)
set_option maxRecDepth 20000 in
theorem gX6_far_X1_ofSize : GoodIn wsX6_far (va_wsS RX6 146 yX1_ofSize wsX1_ofSize) := goodIn_app (goodIn_of _ (by decide +kernel)) ggX6_far_X1_ofSize
theorem dX6_far_0 : decode cX6_far 0 = .ok (.iload_n 1, 1) := by decide +kernel
theorem dX6_far_1 : decode cX6_far 1 = .ok (.invokestatic 42, 3) := by decide +kernel
theorem dX6_far_4 : decode cX6_far 4 = .ok (.ifCond .eq 22, 3) := by decide +kernel
theorem dX6_far_7 : decode cX6_far 7 = .ok (.iload_n 2, 1) := by decide +kernel
theorem dX6_far_8 : decode cX6_far 8 = .ok (.invokestatic 42, 3) := by decide +kernel
theorem dX6_far_11 : decode cX6_far 11 = .ok (.ifCond .eq 15, 3) := by decide +kernel
theorem dX6_far_14 : decode cX6_far 14 = .ok (.aload_n 0, 1) := by decide +kernel
theorem dX6_far_15 : decode cX6_far 15 = .ok (.iload_n 1, 1) := by decide +kernel
theorem dX6_far_16 : decode cX6_far 16 = .ok (.iload_n 2, 1) := by decide +kernel
theorem dX6_far_17 : decode cX6_far 17 = .ok (.invokevirtual 142, 3) := by decide +kernel
theorem dX6_far_20 : decode cX6_far 20 = .ok (.invokestatic 146, 3) := by decide +kernel
theorem dX6_far_23 : decode cX6_far 23 = .ok (.goto 4, 3) := by decide +kernel
theorem dX6_far_26 : decode cX6_far 26 = .ok (.lconst 0, 1) := by decide +kernel
theorem dX6_far_27 : decode cX6_far 27 = .ok (.lreturn, 1) := by decide +kernel
set_option maxRecDepth 20000 in
theorem ggX6_cell_X6_isPoint : GoodIn wsX6_cell wsX6_isPoint := goodIn_r _ [5] (by decide +kernel) (by decide +kernel)
set_option maxRecDepth 20000 in
theorem gX6_cell_X6_isPoint : GoodIn wsX6_cell (va_wsS RX6 42 yX6_isPoint wsX6_isPoint) := goodIn_app (goodIn_of _ (by decide +kernel)) ggX6_cell_X6_isPoint
set_option maxRecDepth 20000 in
theorem ggX6_cell_X6_cellAt : GoodIn wsX6_cell wsX6_cellAt := goodIn_r _ [9, 1, 10, 11, 12, 13, 14, 15, 16, 17, 18, 19, 20, 21, 22, 23, 24, 25, 26, 27, 28, 29, 30, 31, 32, 33, 34, 35, 36, 37, 38, 39, 40, 41, 42, 43, 44, 45, 46, 47, 48, 49, 50, 51, 52, 53, 54, 55, 56, 57, 58, 59, 60, 61, 62, 63, 64, 65, 66, 67, 68, 69, 70, 71, 72, 73, 74, 75, 76, 77, 78, 79, 80, 81, 82, 83, 84, 85, 86, 87, 88, 89, 90, 91, 92] (by decide +kernel) (by decide +kernel)
set_option maxRecDepth 20000 in
theorem gX6_cell_X6_cellAt : GoodIn wsX6_cell (wsV RX6 150 RX6 yX6_cellAt wsX6_cellAt) := goodIn_app (goodIn_of _ (by decide +kernel)) ggX6_cell_X6_cellAt
theorem dX6_cell_0 : decode cX6_cell 0 = .ok (.iload_n 1, 1) := by decide +kernel
theorem dX6_cell_1 : decode cX6_cell 1 = .ok (.invokestatic 42, 3) := by decide +kernel
theorem dX6_cell_4 : decode cX6_cell 4 = .ok (.ifCond .eq 19, 3) := by decide +kernel
theorem dX6_cell_7 : decode cX6_cell 7 = .ok (.aload_n 0, 1) := by decide +kernel
theorem dX6_cell_8 : decode cX6_cell 8 = .ok (.aload_n 0, 1) := by decide +kernel
theorem dX6_cell_9 : decode cX6_cell 9 = .ok (.getfield 12, 3) := by decide +kernel
theorem dX6_cell_12 : decode cX6_cell 12 = .ok (.getfield 76, 3) := by decide +kernel
theorem dX6_cell_15 : decode cX6_cell 15 = .ok (.iload_n 1, 1) := by decide +kernel
theorem dX6_cell_16 : decode cX6_cell 16 = .ok (.laload, 1) := by decide +kernel
theorem dX6_cell_17 : decode cX6_cell 17 = .ok (.invokevirtual 150, 3) := by decide +kernel
theorem dX6_cell_20 : decode cX6_cell 20 = .ok (.goto 4, 3) := by decide +kernel
theorem dX6_cell_23 : decode cX6_cell 23 = .ok (.iconst 0, 1) := by decide +kernel
theorem dX6_cell_24 : decode cX6_cell 24 = .ok (.ireturn, 1) := by decide +kernel
set_option maxRecDepth 20000 in
theorem ggX6_mark_X6_isPoint : GoodIn wsX6_mark wsX6_isPoint := goodIn_r _ [5] (by decide +kernel) (by decide +kernel)
set_option maxRecDepth 20000 in
theorem gX6_mark_X6_isPoint : GoodIn wsX6_mark (va_wsS RX6 42 yX6_isPoint wsX6_isPoint) := goodIn_app (goodIn_of _ (by decide +kernel)) ggX6_mark_X6_isPoint
set_option maxRecDepth 20000 in
theorem ggX6_mark_X6_markAt : GoodIn wsX6_mark wsX6_markAt := goodIn_r _ [9, 1, 10, 11, 12, 13, 14, 15, 16, 17, 18, 19, 20, 21, 22, 23, 24, 25, 26, 27, 28, 29, 30, 31, 32, 33, 34, 35, 36, 37, 38, 39, 40, 41, 42, 43, 44, 45, 46, 47, 48, 49, 50, 51, 52, 53, 54, 55, 56, 57, 58, 59, 60, 61, 62, 63, 64, 65, 66, 67, 68, 69, 70, 71, 72, 73, 74, 75, 76, 77, 78, 79, 80, 81, 82, 83, 84, 85, 86, 87, 88, 89, 90, 91, 92] (by decide +kernel) (by decide +kernel)
set_option maxRecDepth 20000 in
theorem gX6_mark_X6_markAt : GoodIn wsX6_mark (wsV RX6 153 RX6 yX6_markAt wsX6_markAt) := goodIn_app (goodIn_of _ (by decide +kernel)) ggX6_mark_X6_markAt
theorem dX6_mark_0 : decode cX6_mark 0 = .ok (.iload_n 1, 1) := by decide +kernel
theorem dX6_mark_1 : decode cX6_mark 1 = .ok (.invokestatic 42, 3) := by decide +kernel
theorem dX6_mark_4 : decode cX6_mark 4 = .ok (.ifCond .eq 19, 3) := by decide +kernel
theorem dX6_mark_7 : decode cX6_mark 7 = .ok (.aload_n 0, 1) := by decide +kernel
theorem dX6_mark_8 : decode cX6_mark 8 = .ok (.aload_n 0, 1) := by decide +kernel
theorem dX6_mark_9 : decode cX6_mark 9 = .ok (.getfield 18, 3) := by decide +kernel
theorem dX6_mark_12 : decode cX6_mark 12 = .ok (.getfield 76, 3) := by decide +kernel
theorem dX6_mark_15 : decode cX6_mark 15 = .ok (.iload_n 1, 1) := by decide +kernel
theorem dX6_mark_16 : decode cX6_mark 16 = .ok (.laload, 1) := by decide +kernel
theorem dX6_mark_17 : decode cX6_mark 17 = .ok (.invokevirtual 153, 3) := by decide +kernel
theorem dX6_mark_20 : decode cX6_mark 20 = .ok (.goto 4, 3) := by decide +kernel
theorem dX6_mark_23 : decode cX6_mark 23 = .ok (.lconst 0, 1) := by decide +kernel
theorem dX6_mark_24 : decode cX6_mark 24 = .ok (.lreturn, 1) := by decide +kernel
set_option maxRecDepth 20000 in
theorem ggX6_gap_X6_isPoint : GoodIn wsX6_gap wsX6_isPoint := goodIn_r _ [9] (by decide +kernel) (by decide +kernel)
set_option maxRecDepth 20000 in
theorem gX6_gap_X6_isPoint : GoodIn wsX6_gap (va_wsS RX6 42 yX6_isPoint wsX6_isPoint) := goodIn_app (goodIn_of _ (by decide +kernel)) ggX6_gap_X6_isPoint
set_option maxRecDepth 20000 in
theorem ggX6_gap_X6_cellAt : GoodIn wsX6_gap wsX6_cellAt := goodIn_r _ [13, 1, 14, 15, 16, 17, 18, 19, 20, 21, 22, 23, 24, 25, 26, 27, 28, 29, 30, 31, 32, 33, 34, 35, 36, 37, 38, 39, 40, 41, 42, 43, 44, 45, 46, 47, 48, 49, 50, 51, 52, 53, 54, 55, 56, 57, 58, 59, 60, 61, 62, 63, 64, 65, 66, 67, 68, 69, 70, 71, 72, 73, 74, 75, 76, 77, 78, 79, 80, 81, 82, 83, 84, 85, 86, 87, 88, 89, 90, 91, 92, 93, 94, 95, 96] (by decide +kernel) (by decide +kernel)
set_option maxRecDepth 20000 in
theorem gX6_gap_X6_cellAt : GoodIn wsX6_gap (wsV RX6 150 RX6 yX6_cellAt wsX6_cellAt) := goodIn_app (goodIn_of _ (by decide +kernel)) ggX6_gap_X6_cellAt
theorem dX6_gap_0 : decode cX6_gap 0 = .ok (.iload_n 1, 1) := by decide +kernel
theorem dX6_gap_1 : decode cX6_gap 1 = .ok (.invokestatic 42, 3) := by decide +kernel
theorem dX6_gap_4 : decode cX6_gap 4 = .ok (.ifCond .eq 43, 3) := by decide +kernel
theorem dX6_gap_7 : decode cX6_gap 7 = .ok (.iload_n 2, 1) := by decide +kernel
theorem dX6_gap_8 : decode cX6_gap 8 = .ok (.invokestatic 42, 3) := by decide +kernel
theorem dX6_gap_11 : decode cX6_gap 11 = .ok (.ifCond .eq 36, 3) := by decide +kernel
theorem dX6_gap_14 : decode cX6_gap 14 = .ok (.aload_n 0, 1) := by decide +kernel
theorem dX6_gap_15 : decode cX6_gap 15 = .ok (.aload_n 0, 1) := by decide +kernel
theorem dX6_gap_16 : decode cX6_gap 16 = .ok (.getfield 12, 3) := by decide +kernel
theorem dX6_gap_19 : decode cX6_gap 19 = .ok (.getfield 76, 3) := by decide +kernel
theorem dX6_gap_22 : decode cX6_gap 22 = .ok (.iload_n 1, 1) := by decide +kernel
theorem dX6_gap_23 : decode cX6_gap 23 = .ok (.laload, 1) := by decide +kernel
theorem dX6_gap_24 : decode cX6_gap 24 = .ok (.invokevirtual 150, 3) := by decide +kernel
theorem dX6_gap_27 : decode cX6_gap 27 = .ok (.aload_n 0, 1) := by decide +kernel
theorem dX6_gap_28 : decode cX6_gap 28 = .ok (.aload_n 0, 1) := by decide +kernel
theorem dX6_gap_29 : decode cX6_gap 29 = .ok (.getfield 12, 3) := by decide +kernel
theorem dX6_gap_32 : decode cX6_gap 32 = .ok (.getfield 76, 3) := by decide +kernel
theorem dX6_gap_35 : decode cX6_gap 35 = .ok (.iload_n 2, 1) := by decide +kernel
theorem dX6_gap_36 : decode cX6_gap 36 = .ok (.laload, 1) := by decide +kernel
theorem dX6_gap_37 : decode cX6_gap 37 = .ok (.invokevirtual 150, 3) := by decide +kernel
theorem dX6_gap_40 : decode cX6_gap 40 = .ok (.isub, 1) := by decide +kernel
theorem dX6_gap_41 : decode cX6_gap 41 = .ok (.invokestatic 156, 3) := by decide +kernel
theorem dX6_gap_44 : decode cX6_gap 44 = .ok (.goto 4, 3) := by decide +kernel
theorem dX6_gap_47 : decode cX6_gap 47 = .ok (.iconst 0, 1) := by decide +kernel
theorem dX6_gap_48 : decode cX6_gap 48 = .ok (.ireturn, 1) := by decide +kernel
set_option maxRecDepth 20000 in
theorem ggX6_rise_X6_isPoint : GoodIn wsX6_rise wsX6_isPoint := goodIn_r _ [9] (by decide +kernel) (by decide +kernel)
set_option maxRecDepth 20000 in
theorem gX6_rise_X6_isPoint : GoodIn wsX6_rise (va_wsS RX6 42 yX6_isPoint wsX6_isPoint) := goodIn_app (goodIn_of _ (by decide +kernel)) ggX6_rise_X6_isPoint
set_option maxRecDepth 20000 in
theorem ggX6_rise_X6_markAt : GoodIn wsX6_rise wsX6_markAt := goodIn_r _ [13, 1, 14, 15, 16, 17, 18, 19, 20, 21, 22, 23, 24, 25, 26, 27, 28, 29, 30, 31, 32, 33, 34, 35, 36, 37, 38, 39, 40, 41, 42, 43, 44, 45, 46, 47, 48, 49, 50, 51, 52, 53, 54, 55, 56, 57, 58, 59, 60, 61, 62, 63, 64, 65, 66, 67, 68, 69, 70, 71, 72, 73, 74, 75, 76, 77, 78, 79, 80, 81, 82, 83, 84, 85, 86, 87, 88, 89, 90, 91, 92, 93, 94, 95, 96] (by decide +kernel) (by decide +kernel)
set_option maxRecDepth 20000 in
theorem gX6_rise_X6_markAt : GoodIn wsX6_rise (wsV RX6 153 RX6 yX6_markAt wsX6_markAt) := goodIn_app (goodIn_of _ (by decide +kernel)) ggX6_rise_X6_markAt
theorem dX6_rise_0 : decode cX6_rise 0 = .ok (.iload_n 1, 1) := by decide +kernel
theorem dX6_rise_1 : decode cX6_rise 1 = .ok (.invokestatic 42, 3) := by decide +kernel
theorem dX6_rise_4 : decode cX6_rise 4 = .ok (.ifCond .eq 43, 3) := by decide +kernel
theorem dX6_rise_7 : decode cX6_rise 7 = .ok (.iload_n 2, 1) := by decide +kernel
theorem dX6_rise_8 : decode cX6_rise 8 = .ok (.invokestatic 42, 3) := by decide +kernel
theorem dX6_rise_11 : decode cX6_rise 11 = .ok (.ifCond .eq 36, 3) := by decide +kernel
theorem dX6_rise_14 : decode cX6_rise 14 = .ok (.aload_n 0, 1) := by decide +kernel
theorem dX6_rise_15 : decode cX6_rise 15 = .ok (.aload_n 0, 1) := by decide +kernel
theorem dX6_rise_16 : decode cX6_rise 16 = .ok (.getfield 18, 3) := by decide +kernel
theorem dX6_rise_19 : decode cX6_rise 19 = .ok (.getfield 76, 3) := by decide +kernel
theorem dX6_rise_22 : decode cX6_rise 22 = .ok (.iload_n 1, 1) := by decide +kernel
theorem dX6_rise_23 : decode cX6_rise 23 = .ok (.laload, 1) := by decide +kernel
theorem dX6_rise_24 : decode cX6_rise 24 = .ok (.invokevirtual 153, 3) := by decide +kernel
theorem dX6_rise_27 : decode cX6_rise 27 = .ok (.aload_n 0, 1) := by decide +kernel
theorem dX6_rise_28 : decode cX6_rise 28 = .ok (.aload_n 0, 1) := by decide +kernel
theorem dX6_rise_29 : decode cX6_rise 29 = .ok (.getfield 18, 3) := by decide +kernel
theorem dX6_rise_32 : decode cX6_rise 32 = .ok (.getfield 76, 3) := by decide +kernel
theorem dX6_rise_35 : decode cX6_rise 35 = .ok (.iload_n 2, 1) := by decide +kernel
theorem dX6_rise_36 : decode cX6_rise 36 = .ok (.laload, 1) := by decide +kernel
theorem dX6_rise_37 : decode cX6_rise 37 = .ok (.invokevirtual 153, 3) := by decide +kernel
theorem dX6_rise_40 : decode cX6_rise 40 = .ok (.lsub, 1) := by decide +kernel
theorem dX6_rise_41 : decode cX6_rise 41 = .ok (.invokestatic 161, 3) := by decide +kernel
theorem dX6_rise_44 : decode cX6_rise 44 = .ok (.goto 4, 3) := by decide +kernel
theorem dX6_rise_47 : decode cX6_rise 47 = .ok (.lconst 0, 1) := by decide +kernel
theorem dX6_rise_48 : decode cX6_rise 48 = .ok (.lreturn, 1) := by decide +kernel
set_option maxRecDepth 20000 in
theorem ggX6_edge_X6_isEnd : GoodIn wsX6_edge wsX6_isEnd := goodIn_r _ [5] (by decide +kernel) (by decide +kernel)
set_option maxRecDepth 20000 in
theorem gX6_edge_X6_isEnd : GoodIn wsX6_edge (va_wsS RX6 95 yX6_isEnd wsX6_isEnd) := goodIn_app (goodIn_of _ (by decide +kernel)) ggX6_edge_X6_isEnd
set_option maxRecDepth 20000 in
theorem ggX6_edge_X0_outermost : GoodIn wsX6_edge wsX0_outermost := goodIn_r _ [10, 11, 12, 13, 14, 15, 16, 17, 18, 19, 20, 21, 22, 23, 24, 25, 33, 34, 35, 36, 37] (by decide +kernel) (by decide +kernel)
set_option maxRecDepth 20000 in
theorem gX6_edge_X0_outermost : GoodIn wsX6_edge (wsV RX6 163 RX0 yX0_outermost wsX0_outermost) := goodIn_app (goodIn_of _ (by decide +kernel)) ggX6_edge_X0_outermost
theorem dX6_edge_0 : decode cX6_edge 0 = .ok (.iload_n 1, 1) := by decide +kernel
theorem dX6_edge_1 : decode cX6_edge 1 = .ok (.invokestatic 95, 3) := by decide +kernel
theorem dX6_edge_4 : decode cX6_edge 4 = .ok (.ifCond .eq 14, 3) := by decide +kernel
theorem dX6_edge_7 : decode cX6_edge 7 = .ok (.aload_n 0, 1) := by decide +kernel
theorem dX6_edge_8 : decode cX6_edge 8 = .ok (.getfield 12, 3) := by decide +kernel
theorem dX6_edge_11 : decode cX6_edge 11 = .ok (.iload_n 1, 1) := by decide +kernel
theorem dX6_edge_12 : decode cX6_edge 12 = .ok (.invokevirtual 163, 3) := by decide +kernel
theorem dX6_edge_15 : decode cX6_edge 15 = .ok (.goto 4, 3) := by decide +kernel
theorem dX6_edge_18 : decode cX6_edge 18 = .ok (.lconst 0, 1) := by decide +kernel
theorem dX6_edge_19 : decode cX6_edge 19 = .ok (.lreturn, 1) := by decide +kernel
set_option maxRecDepth 20000 in
theorem ggX6_rim_X6_isEnd : GoodIn wsX6_rim wsX6_isEnd := goodIn_r _ [5] (by decide +kernel) (by decide +kernel)
set_option maxRecDepth 20000 in
theorem gX6_rim_X6_isEnd : GoodIn wsX6_rim (va_wsS RX6 95 yX6_isEnd wsX6_isEnd) := goodIn_app (goodIn_of _ (by decide +kernel)) ggX6_rim_X6_isEnd
set_option maxRecDepth 20000 in
theorem ggX6_rim_X0_outermost : GoodIn wsX6_rim wsX0_outermost := goodIn_r _ [10, 11, 12, 13, 14, 15, 16, 17, 18, 19, 20, 21, 22, 23, 24, 25, 72, 73, 74, 75, 76] (by decide +kernel) (by decide +kernel)
set_option maxRecDepth 20000 in
theorem gX6_rim_X0_outermost : GoodIn wsX6_rim (wsV RX6 163 RX0 yX0_outermost wsX0_outermost) := goodIn_app (goodIn_of _ (by decide +kernel)) ggX6_rim_X0_outermost
set_option maxRecDepth 20000 in
theorem ggX6_rim_X3_narrowed : GoodIn wsX6_rim wsX3_narrowed := goodIn_r _ [29, 30, 31, 32, 33, 34, 35, 36, 14, 37, 22, 38, 39, 40, 41, 42, 43, 44, 45, 46, 47, 48, 49, 50, 51, 52, 53, 54, 55, 56, 57, 58, 59, 60, 61, 62, 63, 64] (by decide +kernel) (by decide +kernel)
set_option maxRecDepth 20000 in
theorem gX6_rim_X3_narrowed : GoodIn wsX6_rim (va_wsS RX6 136 yX3_narrowed wsX3_narrowed) := goodIn_app (goodIn_of _ (by decide +kernel)) ggX6_rim_X3_narrowed
theorem dX6_rim_0 : decode cX6_rim 0 = .ok (.iload_n 1, 1) := by decide +kernel
theorem dX6_rim_1 : decode cX6_rim 1 = .ok (.invokestatic 95, 3) := by decide +kernel
theorem dX6_rim_4 : decode cX6_rim 4 = .ok (.ifCond .eq 17, 3) := by decide +kernel
theorem dX6_rim_7 : decode cX6_rim 7 = .ok (.aload_n 0, 1) := by decide +kernel
theorem dX6_rim_8 : decode cX6_rim 8 = .ok (.getfield 18, 3) := by decide +kernel
theorem dX6_rim_11 : decode cX6_rim 11 = .ok (.iload_n 1, 1) := by decide +kernel
theorem dX6_rim_12 : decode cX6_rim 12 = .ok (.invokevirtual 163, 3) := by decide +kernel
theorem dX6_rim_15 : decode cX6_rim 15 = .ok (.invokestatic 136, 3) := by decide +kernel
theorem dX6_rim_18 : decode cX6_rim 18 = .ok (.goto 4, 3) := by decide +kernel
theorem dX6_rim_21 : decode cX6_rim 21 = .ok (.iconst 0, 1) := by decide +kernel
theorem dX6_rim_22 : decode cX6_rim 22 = .ok (.ireturn, 1) := by decide +kernel
set_option maxRecDepth 20000 in
theorem ggX6_neighbour_X6_isPoint : GoodIn wsX6_neighbour wsX6_isPoint := goodIn_r _ [4] (by decide +kernel) (by decide +kernel)
set_option maxRecDepth 20000 in
theorem gX6_neighbour_X6_isPoint : GoodIn wsX6_neighbour (va_wsS RX6 42 yX6_isPoint wsX6_isPoint) := goodIn_app (goodIn_of _ (by decide +kernel)) ggX6_neighbour_X6_isPoint
set_option maxRecDepth 20000 in
theorem ggX6_neighbour_X6_distance : GoodIn wsX6_neighbour wsX6_distance := goodIn_r _ [8, 9, 10, 11, 12, 13, 14, 15, 16, 17, 18, 19, 20, 21, 22, 23, 24, 25, 26, 27, 28, 29, 30, 31, 32, 33, 34, 35, 36, 37, 38, 39, 40, 41, 42, 43, 44, 45, 46, 47, 48, 49, 50, 51, 52, 53, 54, 55, 56, 57, 58, 59, 60, 61, 62, 63] (by decide +kernel) (by decide +kernel)
set_option maxRecDepth 20000 in
theorem gX6_neighbour_X6_distance : GoodIn wsX6_neighbour (wsV RX6 142 RX6 yX6_distance wsX6_distance) := goodIn_app (goodIn_of _ (by decide +kernel)) ggX6_neighbour_X6_distance
theorem dX6_neighbour_0 : decode cX6_neighbour 0 = .ok (.iload_n 1, 1) := by decide +kernel
theorem dX6_neighbour_1 : decode cX6_neighbour 1 = .ok (.invokestatic 42, 3) := by decide +kernel
theorem dX6_neighbour_4 : decode cX6_neighbour 4 = .ok (.ifCond .ne 5, 3) := by decide +kernel
theorem dX6_neighbour_7 : decode cX6_neighbour 7 = .ok (.iconst (-1), 1) := by decide +kernel
theorem dX6_neighbour_8 : decode cX6_neighbour 8 = .ok (.ireturn, 1) := by decide +kernel
theorem dX6_neighbour_9 : decode cX6_neighbour 9 = .ok (.iconst (-1), 1) := by decide +kernel
theorem dX6_neighbour_10 : decode cX6_neighbour 10 = .ok (.istore_n 2, 1) := by decide +kernel
theorem dX6_neighbour_11 : decode cX6_neighbour 11 = .ok (.dconst 0, 1) := by decide +kernel
theorem dX6_neighbour_12 : decode cX6_neighbour 12 = .ok (.dstore_n 3, 1) := by decide +kernel
theorem dX6_neighbour_13 : decode cX6_neighbour 13 = .ok (.iconst 0, 1) := by decide +kernel
theorem dX6_neighbour_14 : decode cX6_neighbour 14 = .ok (.istore 5, 2) := by decide +kernel
theorem dX6_neighbour_16 : decode cX6_neighbour 16 = .ok (.iload 5, 2) := by decide +kernel
theorem dX6_neighbour_18 : decode cX6_neighbour 18 = .ok (.bipush 8, 2) := by decide +kernel
theorem dX6_neighbour_20 : decode cX6_neighbour 20 = .ok (.if_icmp .ge 42, 3) := by decide +kernel
theorem dX6_neighbour_23 : decode cX6_neighbour 23 = .ok (.iload 5, 2) := by decide +kernel
theorem dX6_neighbour_25 : decode cX6_neighbour 25 = .ok (.iload_n 1, 1) := by decide +kernel
theorem dX6_neighbour_26 : decode cX6_neighbour 26 = .ok (.if_icmp .eq 30, 3) := by decide +kernel
theorem dX6_neighbour_29 : decode cX6_neighbour 29 = .ok (.aload_n 0, 1) := by decide +kernel
theorem dX6_neighbour_30 : decode cX6_neighbour 30 = .ok (.iload_n 1, 1) := by decide +kernel
theorem dX6_neighbour_31 : decode cX6_neighbour 31 = .ok (.iload 5, 2) := by decide +kernel
theorem dX6_neighbour_33 : decode cX6_neighbour 33 = .ok (.invokevirtual 142, 3) := by decide +kernel
theorem dX6_neighbour_36 : decode cX6_neighbour 36 = .ok (.dstore 6, 2) := by decide +kernel
theorem dX6_neighbour_38 : decode cX6_neighbour 38 = .ok (.iload_n 2, 1) := by decide +kernel
theorem dX6_neighbour_39 : decode cX6_neighbour 39 = .ok (.iconst (-1), 1) := by decide +kernel
theorem dX6_neighbour_40 : decode cX6_neighbour 40 = .ok (.if_icmp .eq 10, 3) := by decide +kernel
theorem dX6_neighbour_43 : decode cX6_neighbour 43 = .ok (.dload 6, 2) := by decide +kernel
theorem dX6_neighbour_45 : decode cX6_neighbour 45 = .ok (.dload_n 3, 1) := by decide +kernel
theorem dX6_neighbour_46 : decode cX6_neighbour 46 = .ok (.dcmp .g, 1) := by decide +kernel
theorem dX6_neighbour_47 : decode cX6_neighbour 47 = .ok (.ifCond .ge 9, 3) := by decide +kernel
theorem dX6_neighbour_50 : decode cX6_neighbour 50 = .ok (.iload 5, 2) := by decide +kernel
theorem dX6_neighbour_52 : decode cX6_neighbour 52 = .ok (.istore_n 2, 1) := by decide +kernel
theorem dX6_neighbour_53 : decode cX6_neighbour 53 = .ok (.dload 6, 2) := by decide +kernel
theorem dX6_neighbour_55 : decode cX6_neighbour 55 = .ok (.dstore_n 3, 1) := by decide +kernel
theorem dX6_neighbour_56 : decode cX6_neighbour 56 = .ok (.iinc 5 1, 3) := by decide +kernel
theorem dX6_neighbour_59 : decode cX6_neighbour 59 = .ok (.goto (-43), 3) := by decide +kernel
theorem dX6_neighbour_62 : decode cX6_neighbour 62 = .ok (.iload_n 2, 1) := by decide +kernel
theorem dX6_neighbour_63 : decode cX6_neighbour 63 = .ok (.ireturn, 1) := by decide +kernel
set_option maxRecDepth 20000 in
theorem ggX6_column_X6_isEnd : GoodIn wsX6_column wsX6_isEnd := goodIn_r _ [5] (by decide +kernel) (by decide +kernel)
set_option maxRecDepth 20000 in
theorem gX6_column_X6_isEnd : GoodIn wsX6_column (va_wsS RX6 95 yX6_isEnd wsX6_isEnd) := goodIn_app (goodIn_of _ (by decide +kernel)) ggX6_column_X6_isEnd
set_option maxRecDepth 20000 in
theorem ggX6_column_X0_outermost : GoodIn wsX6_column wsX0_outermost := goodIn_r _ [10, 11, 12, 13, 14, 15, 16, 17, 18, 19, 20, 21, 22, 23, 24, 25, 105, 106, 107, 108, 109] (by decide +kernel) (by decide +kernel)
set_option maxRecDepth 20000 in
theorem gX6_column_X0_outermost : GoodIn wsX6_column (wsV RX6 163 RX0 yX0_outermost wsX0_outermost) := goodIn_app (goodIn_of _ (by decide +kernel)) ggX6_column_X0_outermost
set_option maxRecDepth 20000 in
theorem ggX6_column_X6_cellAt : GoodIn wsX6_column wsX6_cellAt := goodIn_r _ [29, 1, 30, 31, 32, 9, 33, 34, 35, 36, 37, 14, 38, 22, 39, 40, 41, 42, 43, 44, 45, 46, 47, 48, 49, 50, 51, 52, 53, 54, 55, 56, 57, 58, 59, 60, 61, 62, 63, 64, 65, 66, 67, 68, 69, 70, 71, 72, 73, 74, 75, 76, 77, 78, 79, 80, 81, 82, 83, 84, 85, 86, 87, 88, 89, 90, 91, 92, 93, 94, 95, 96, 97, 98, 99, 100, 101, 102, 103, 104, 105, 106, 107, 108, 109] (by decide +kernel) (by decide +kernel)
set_option maxRecDepth 20000 in
theorem gX6_column_X6_cellAt : GoodIn wsX6_column (wsV RX6 150 RX6 yX6_cellAt wsX6_cellAt) := goodIn_app (goodIn_of _ (by decide +kernel)) ggX6_column_X6_cellAt
theorem dX6_column_0 : decode cX6_column 0 = .ok (.iload_n 1, 1) := by decide +kernel
theorem dX6_column_1 : decode cX6_column 1 = .ok (.invokestatic 95, 3) := by decide +kernel
theorem dX6_column_4 : decode cX6_column 4 = .ok (.ifCond .eq 18, 3) := by decide +kernel
theorem dX6_column_7 : decode cX6_column 7 = .ok (.aload_n 0, 1) := by decide +kernel
theorem dX6_column_8 : decode cX6_column 8 = .ok (.aload_n 0, 1) := by decide +kernel
theorem dX6_column_9 : decode cX6_column 9 = .ok (.getfield 12, 3) := by decide +kernel
theorem dX6_column_12 : decode cX6_column 12 = .ok (.iload_n 1, 1) := by decide +kernel
theorem dX6_column_13 : decode cX6_column 13 = .ok (.invokevirtual 163, 3) := by decide +kernel
theorem dX6_column_16 : decode cX6_column 16 = .ok (.invokevirtual 150, 3) := by decide +kernel
theorem dX6_column_19 : decode cX6_column 19 = .ok (.goto 4, 3) := by decide +kernel
theorem dX6_column_22 : decode cX6_column 22 = .ok (.iconst 0, 1) := by decide +kernel
theorem dX6_column_23 : decode cX6_column 23 = .ok (.ireturn, 1) := by decide +kernel
set_option maxRecDepth 20000 in
theorem ggX6_row_X6_isEnd : GoodIn wsX6_row wsX6_isEnd := goodIn_r _ [5] (by decide +kernel) (by decide +kernel)
set_option maxRecDepth 20000 in
theorem gX6_row_X6_isEnd : GoodIn wsX6_row (va_wsS RX6 95 yX6_isEnd wsX6_isEnd) := goodIn_app (goodIn_of _ (by decide +kernel)) ggX6_row_X6_isEnd
set_option maxRecDepth 20000 in
theorem ggX6_row_X0_outermost : GoodIn wsX6_row wsX0_outermost := goodIn_r _ [10, 11, 12, 13, 14, 15, 16, 17, 18, 19, 20, 21, 22, 23, 24, 25, 105, 106, 107, 108, 109] (by decide +kernel) (by decide +kernel)
set_option maxRecDepth 20000 in
theorem gX6_row_X0_outermost : GoodIn wsX6_row (wsV RX6 163 RX0 yX0_outermost wsX0_outermost) := goodIn_app (goodIn_of _ (by decide +kernel)) ggX6_row_X0_outermost
set_option maxRecDepth 20000 in
theorem ggX6_row_X6_markAt : GoodIn wsX6_row wsX6_markAt := goodIn_r _ [29, 1, 30, 31, 32, 9, 33, 34, 35, 36, 37, 14, 38, 22, 39, 40, 41, 42, 43, 44, 45, 46, 47, 48, 49, 50, 51, 52, 53, 54, 55, 56, 57, 58, 59, 60, 61, 62, 63, 64, 65, 66, 67, 68, 69, 70, 71, 72, 73, 74, 75, 76, 77, 78, 79, 80, 81, 82, 83, 84, 85, 86, 87, 88, 89, 90, 91, 92, 93, 94, 95, 96, 97, 98, 99, 100, 101, 102, 103, 104, 105, 106, 107, 108, 109] (by decide +kernel) (by decide +kernel)
set_option maxRecDepth 20000 in
theorem gX6_row_X6_markAt : GoodIn wsX6_row (wsV RX6 153 RX6 yX6_markAt wsX6_markAt) := goodIn_app (goodIn_of _ (by decide +kernel)) ggX6_row_X6_markAt
theorem dX6_row_0 : decode cX6_row 0 = .ok (.iload_n 1, 1) := by decide +kernel
theorem dX6_row_1 : decode cX6_row 1 = .ok (.invokestatic 95, 3) := by decide +kernel
theorem dX6_row_4 : decode cX6_row 4 = .ok (.ifCond .eq 18, 3) := by decide +kernel
theorem dX6_row_7 : decode cX6_row 7 = .ok (.aload_n 0, 1) := by decide +kernel
theorem dX6_row_8 : decode cX6_row 8 = .ok (.aload_n 0, 1) := by decide +kernel
theorem dX6_row_9 : decode cX6_row 9 = .ok (.getfield 18, 3) := by decide +kernel
theorem dX6_row_12 : decode cX6_row 12 = .ok (.iload_n 1, 1) := by decide +kernel
theorem dX6_row_13 : decode cX6_row 13 = .ok (.invokevirtual 163, 3) := by decide +kernel
theorem dX6_row_16 : decode cX6_row 16 = .ok (.invokevirtual 153, 3) := by decide +kernel
theorem dX6_row_19 : decode cX6_row 19 = .ok (.goto 4, 3) := by decide +kernel
theorem dX6_row_22 : decode cX6_row 22 = .ok (.lconst 0, 1) := by decide +kernel
theorem dX6_row_23 : decode cX6_row 23 = .ok (.lreturn, 1) := by decide +kernel
theorem dX6_count_0 : decode cX6_count 0 = .ok (.iload_n 1, 1) := by decide +kernel
theorem dX6_count_1 : decode cX6_count 1 = .ok (.tableswitch 54 0 3 #[31, 36, 41, 46], 31) := by decide +kernel
theorem dX6_count_32 : decode cX6_count 32 = .ok (.aload_n 0, 1) := by decide +kernel
theorem dX6_count_33 : decode cX6_count 33 = .ok (.getfield 166, 3) := by decide +kernel
theorem dX6_count_36 : decode cX6_count 36 = .ok (.ireturn, 1) := by decide +kernel
theorem dX6_count_37 : decode cX6_count 37 = .ok (.aload_n 0, 1) := by decide +kernel
theorem dX6_count_38 : decode cX6_count 38 = .ok (.getfield 169, 3) := by decide +kernel
theorem dX6_count_41 : decode cX6_count 41 = .ok (.ireturn, 1) := by decide +kernel
theorem dX6_count_42 : decode cX6_count 42 = .ok (.aload_n 0, 1) := by decide +kernel
theorem dX6_count_43 : decode cX6_count 43 = .ok (.getfield 172, 3) := by decide +kernel
theorem dX6_count_46 : decode cX6_count 46 = .ok (.ireturn, 1) := by decide +kernel
theorem dX6_count_47 : decode cX6_count 47 = .ok (.aload_n 0, 1) := by decide +kernel
theorem dX6_count_48 : decode cX6_count 48 = .ok (.getfield 24, 3) := by decide +kernel
theorem dX6_count_51 : decode cX6_count 51 = .ok (.getfield 121, 3) := by decide +kernel
theorem dX6_count_54 : decode cX6_count 54 = .ok (.ireturn, 1) := by decide +kernel
theorem dX6_count_55 : decode cX6_count 55 = .ok (.iconst (-1), 1) := by decide +kernel
theorem dX6_count_56 : decode cX6_count 56 = .ok (.ireturn, 1) := by decide +kernel
theorem dX6_isPoint_0 : decode cX6_isPoint 0 = .ok (.iload_n 0, 1) := by decide +kernel
theorem dX6_isPoint_1 : decode cX6_isPoint 1 = .ok (.ifCond .lt 13, 3) := by decide +kernel
theorem dX6_isPoint_4 : decode cX6_isPoint 4 = .ok (.iload_n 0, 1) := by decide +kernel
theorem dX6_isPoint_5 : decode cX6_isPoint 5 = .ok (.bipush 8, 2) := by decide +kernel
theorem dX6_isPoint_7 : decode cX6_isPoint 7 = .ok (.if_icmp .ge 7, 3) := by decide +kernel
theorem dX6_isPoint_10 : decode cX6_isPoint 10 = .ok (.iconst 1, 1) := by decide +kernel
theorem dX6_isPoint_11 : decode cX6_isPoint 11 = .ok (.goto 4, 3) := by decide +kernel
theorem dX6_isPoint_14 : decode cX6_isPoint 14 = .ok (.iconst 0, 1) := by decide +kernel
theorem dX6_isPoint_15 : decode cX6_isPoint 15 = .ok (.ireturn, 1) := by decide +kernel
theorem dX6_isEnd_0 : decode cX6_isEnd 0 = .ok (.iload_n 0, 1) := by decide +kernel
theorem dX6_isEnd_1 : decode cX6_isEnd 1 = .ok (.ifCond .eq 8, 3) := by decide +kernel
theorem dX6_isEnd_4 : decode cX6_isEnd 4 = .ok (.iload_n 0, 1) := by decide +kernel
theorem dX6_isEnd_5 : decode cX6_isEnd 5 = .ok (.iconst 1, 1) := by decide +kernel
theorem dX6_isEnd_6 : decode cX6_isEnd 6 = .ok (.if_icmp .ne 7, 3) := by decide +kernel
theorem dX6_isEnd_9 : decode cX6_isEnd 9 = .ok (.iconst 1, 1) := by decide +kernel
theorem dX6_isEnd_10 : decode cX6_isEnd 10 = .ok (.goto 4, 3) := by decide +kernel
theorem dX6_isEnd_13 : decode cX6_isEnd 13 = .ok (.iconst 0, 1) := by decide +kernel
theorem dX6_isEnd_14 : decode cX6_isEnd 14 = .ok (.ireturn, 1) := by decide +kernel
theorem dX6_refuse_0 : decode cX6_refuse 0 = .ok (.aload_n 0, 1) := by decide +kernel
theorem dX6_refuse_1 : decode cX6_refuse 1 = .ok (.dup, 1) := by decide +kernel
theorem dX6_refuse_2 : decode cX6_refuse 2 = .ok (.getfield 169, 3) := by decide +kernel
theorem dX6_refuse_5 : decode cX6_refuse 5 = .ok (.iconst 1, 1) := by decide +kernel
theorem dX6_refuse_6 : decode cX6_refuse 6 = .ok (.iadd, 1) := by decide +kernel
theorem dX6_refuse_7 : decode cX6_refuse 7 = .ok (.putfield 169, 3) := by decide +kernel
theorem dX6_refuse_10 : decode cX6_refuse 10 = .ok (.iload_n 1, 1) := by decide +kernel
theorem dX6_refuse_11 : decode cX6_refuse 11 = .ok (.ireturn, 1) := by decide +kernel
theorem dX6_finish_0 : decode cX6_finish 0 = .ok (.aload_n 0, 1) := by decide +kernel
theorem dX6_finish_1 : decode cX6_finish 1 = .ok (.dup, 1) := by decide +kernel
theorem dX6_finish_2 : decode cX6_finish 2 = .ok (.getfield 166, 3) := by decide +kernel
theorem dX6_finish_5 : decode cX6_finish 5 = .ok (.iconst 1, 1) := by decide +kernel
theorem dX6_finish_6 : decode cX6_finish 6 = .ok (.iadd, 1) := by decide +kernel
theorem dX6_finish_7 : decode cX6_finish 7 = .ok (.putfield 166, 3) := by decide +kernel
theorem dX6_finish_10 : decode cX6_finish 10 = .ok (.iconst 0, 1) := by decide +kernel
theorem dX6_finish_11 : decode cX6_finish 11 = .ok (.ireturn, 1) := by decide +kernel
set_option maxRecDepth 20000 in
theorem ggX6_fence_X1_isNone : GoodIn wsX6_fence wsX1_isNone := goodIn_r _ [6, 7, 8] (by decide +kernel) (by decide +kernel)
set_option maxRecDepth 20000 in
theorem gX6_fence_X1_isNone : GoodIn wsX6_fence (va_wsS RX6 50 yX1_isNone wsX1_isNone) := goodIn_app (goodIn_of _ (by decide +kernel)) ggX6_fence_X1_isNone
set_option maxRecDepth 20000 in
theorem ggX6_fence_X6_refuse : GoodIn wsX6_fence wsX6_refuse := goodIn_r _ [13, 14, 79, 80, 81, 82, 83, 84, 85] (by decide +kernel) (by decide +kernel)
set_option maxRecDepth 20000 in
theorem gX6_fence_X6_refuse : GoodIn wsX6_fence (wsV RX6 46 RX6 yX6_refuse wsX6_refuse) := goodIn_app (goodIn_of _ (by decide +kernel)) ggX6_fence_X6_refuse
set_option maxRecDepth 20000 in
theorem ggX6_fence_X1_value : GoodIn wsX6_fence wsX1_value := goodIn_r _ [17, 18, 19, 5, 20, 7, 21, 22, 23, 24, 25, 8, 26, 27, 28, 29, 30, 31, 32, 33, 34, 35, 36, 37, 38, 39, 40, 41, 42, 43, 44, 45, 46] (by decide +kernel) (by decide +kernel)
set_option maxRecDepth 20000 in
theorem gX6_fence_X1_value : GoodIn wsX6_fence (va_wsS RX6 109 yX1_value wsX1_value) := goodIn_app (goodIn_of _ (by decide +kernel)) ggX6_fence_X1_value
set_option maxRecDepth 20000 in
theorem ggX6_fence_X0_wallAll : GoodIn wsX6_fence wsX0_wallAll := goodIn_r _ [51, 52, 53, 54, 55, 56, 57, 50, 58, 59, 60, 5, 61, 62, 63, 64, 7, 65, 66, 67, 86, 87, 88, 89, 90] (by decide +kernel) (by decide +kernel)
set_option maxRecDepth 20000 in
theorem gX6_fence_X0_wallAll : GoodIn wsX6_fence (wsV RX6 175 RX0 yX0_wallAll wsX0_wallAll) := goodIn_app (goodIn_of _ (by decide +kernel)) ggX6_fence_X0_wallAll
set_option maxRecDepth 20000 in
theorem ggX6_fence_X4_clear : GoodIn wsX6_fence wsX4_clear := goodIn_r _ [72, 73, 91, 92, 93, 94, 95] (by decide +kernel) (by decide +kernel)
set_option maxRecDepth 20000 in
theorem gX6_fence_X4_clear : GoodIn wsX6_fence (wsV RX6 179 RX4 yX4_clear wsX4_clear) := goodIn_app (goodIn_of _ (by decide +kernel)) ggX6_fence_X4_clear
set_option maxRecDepth 20000 in
theorem ggX6_fence_X6_finish : GoodIn wsX6_fence wsX6_finish := goodIn_r _ [77, 78, 79, 80, 81, 82, 83, 84, 85] (by decide +kernel) (by decide +kernel)
set_option maxRecDepth 20000 in
theorem gX6_fence_X6_finish : GoodIn wsX6_fence (wsV RX6 72 RX6 yX6_finish wsX6_finish) := goodIn_app (goodIn_of _ (by decide +kernel)) ggX6_fence_X6_finish
theorem dX6_fence_0 : decode cX6_fence 0 = .ok (.lload_n 2, 1) := by decide +kernel
theorem dX6_fence_1 : decode cX6_fence 1 = .ok (.invokestatic 50, 3) := by decide +kernel
theorem dX6_fence_4 : decode cX6_fence 4 = .ok (.ifCond .ne 11, 3) := by decide +kernel
theorem dX6_fence_7 : decode cX6_fence 7 = .ok (.lload 4, 2) := by decide +kernel
theorem dX6_fence_9 : decode cX6_fence 9 = .ok (.invokestatic 50, 3) := by decide +kernel
theorem dX6_fence_12 : decode cX6_fence 12 = .ok (.ifCond .eq 9, 3) := by decide +kernel
theorem dX6_fence_15 : decode cX6_fence 15 = .ok (.aload_n 0, 1) := by decide +kernel
theorem dX6_fence_16 : decode cX6_fence 16 = .ok (.iconst 2, 1) := by decide +kernel
theorem dX6_fence_17 : decode cX6_fence 17 = .ok (.invokevirtual 46, 3) := by decide +kernel
theorem dX6_fence_20 : decode cX6_fence 20 = .ok (.ireturn, 1) := by decide +kernel
theorem dX6_fence_21 : decode cX6_fence 21 = .ok (.lload_n 2, 1) := by decide +kernel
theorem dX6_fence_22 : decode cX6_fence 22 = .ok (.invokestatic 109, 3) := by decide +kernel
theorem dX6_fence_25 : decode cX6_fence 25 = .ok (.lload 4, 2) := by decide +kernel
theorem dX6_fence_27 : decode cX6_fence 27 = .ok (.invokestatic 109, 3) := by decide +kernel
theorem dX6_fence_30 : decode cX6_fence 30 = .ok (.dcmp .g, 1) := by decide +kernel
theorem dX6_fence_31 : decode cX6_fence 31 = .ok (.ifCond .lt 9, 3) := by decide +kernel
theorem dX6_fence_34 : decode cX6_fence 34 = .ok (.aload_n 0, 1) := by decide +kernel
theorem dX6_fence_35 : decode cX6_fence 35 = .ok (.iconst 4, 1) := by decide +kernel
theorem dX6_fence_36 : decode cX6_fence 36 = .ok (.invokevirtual 46, 3) := by decide +kernel
theorem dX6_fence_39 : decode cX6_fence 39 = .ok (.ireturn, 1) := by decide +kernel
theorem dX6_fence_40 : decode cX6_fence 40 = .ok (.aload_n 0, 1) := by decide +kernel
theorem dX6_fence_41 : decode cX6_fence 41 = .ok (.dup, 1) := by decide +kernel
theorem dX6_fence_42 : decode cX6_fence 42 = .ok (.getfield 172, 3) := by decide +kernel
theorem dX6_fence_45 : decode cX6_fence 45 = .ok (.aload_n 1, 1) := by decide +kernel
theorem dX6_fence_46 : decode cX6_fence 46 = .ok (.lload_n 2, 1) := by decide +kernel
theorem dX6_fence_47 : decode cX6_fence 47 = .ok (.lload 4, 2) := by decide +kernel
theorem dX6_fence_49 : decode cX6_fence 49 = .ok (.invokevirtual 175, 3) := by decide +kernel
theorem dX6_fence_52 : decode cX6_fence 52 = .ok (.iadd, 1) := by decide +kernel
theorem dX6_fence_53 : decode cX6_fence 53 = .ok (.putfield 172, 3) := by decide +kernel
theorem dX6_fence_56 : decode cX6_fence 56 = .ok (.aload_n 0, 1) := by decide +kernel
theorem dX6_fence_57 : decode cX6_fence 57 = .ok (.getfield 24, 3) := by decide +kernel
theorem dX6_fence_60 : decode cX6_fence 60 = .ok (.invokevirtual 179, 3) := by decide +kernel
theorem dX6_fence_63 : decode cX6_fence 63 = .ok (.aload_n 0, 1) := by decide +kernel
theorem dX6_fence_64 : decode cX6_fence 64 = .ok (.invokevirtual 72, 3) := by decide +kernel
theorem dX6_fence_67 : decode cX6_fence 67 = .ok (.ireturn, 1) := by decide +kernel
set_option maxRecDepth 20000 in
theorem ggX6_putWalled_X0_walled : GoodIn wsX6_putWalled wsX0_walled := goodIn_r _ [8, 9, 10, 11, 12, 13, 14, 15, 16, 17, 18, 19, 20, 21, 59, 60, 61, 62, 63] (by decide +kernel) (by decide +kernel)
set_option maxRecDepth 20000 in
theorem gX6_putWalled_X0_walled : GoodIn wsX6_putWalled (wsV RX6 182 RX0 yX0_walled wsX0_walled) := goodIn_app (goodIn_of _ (by decide +kernel)) ggX6_putWalled_X0_walled
set_option maxRecDepth 20000 in
theorem ggX6_putWalled_X1_isInfinite : GoodIn wsX6_putWalled wsX1_isInfinite := goodIn_r _ [24, 18, 25] (by decide +kernel) (by decide +kernel)
set_option maxRecDepth 20000 in
theorem gX6_putWalled_X1_isInfinite : GoodIn wsX6_putWalled (va_wsS RX6 54 yX1_isInfinite wsX1_isInfinite) := goodIn_app (goodIn_of _ (by decide +kernel)) ggX6_putWalled_X1_isInfinite
set_option maxRecDepth 20000 in
theorem ggX6_putWalled_X6_refuse : GoodIn wsX6_putWalled wsX6_refuse := goodIn_r _ [30, 31, 52, 53, 54, 55, 56, 57, 58] (by decide +kernel) (by decide +kernel)
set_option maxRecDepth 20000 in
theorem gX6_putWalled_X6_refuse : GoodIn wsX6_putWalled (wsV RX6 46 RX6 yX6_refuse wsX6_refuse) := goodIn_app (goodIn_of _ (by decide +kernel)) ggX6_putWalled_X6_refuse
set_option maxRecDepth 20000 in
theorem ggX6_putWalled_X6_put : GoodIn wsX6_putWalled wsX6_put := goodIn_r _ [35, 36, 1, 2, 37, 38, 39, 40, 41, 42, 43, 44, 45, 46, 47, 48, 49, 29, 50, 51, 52, 53, 54, 55, 56, 57, 58, 59, 60, 61, 62, 63, 64, 65, 66, 67, 68] (by decide +kernel) (by decide +kernel)
set_option maxRecDepth 20000 in
theorem gX6_putWalled_X6_put : GoodIn wsX6_putWalled (wsV RX6 102 RX6 yX6_put wsX6_put) := goodIn_app (goodIn_of _ (by decide +kernel)) ggX6_putWalled_X6_put
theorem dX6_putWalled_0 : decode cX6_putWalled 0 = .ok (.aload_n 0, 1) := by decide +kernel
theorem dX6_putWalled_1 : decode cX6_putWalled 1 = .ok (.getfield 12, 3) := by decide +kernel
theorem dX6_putWalled_4 : decode cX6_putWalled 4 = .ok (.lload_n 2, 1) := by decide +kernel
theorem dX6_putWalled_5 : decode cX6_putWalled 5 = .ok (.invokevirtual 182, 3) := by decide +kernel
theorem dX6_putWalled_8 : decode cX6_putWalled 8 = .ok (.lstore 6, 2) := by decide +kernel
theorem dX6_putWalled_10 : decode cX6_putWalled 10 = .ok (.aload_n 0, 1) := by decide +kernel
theorem dX6_putWalled_11 : decode cX6_putWalled 11 = .ok (.getfield 18, 3) := by decide +kernel
theorem dX6_putWalled_14 : decode cX6_putWalled 14 = .ok (.lload 4, 2) := by decide +kernel
theorem dX6_putWalled_16 : decode cX6_putWalled 16 = .ok (.invokevirtual 182, 3) := by decide +kernel
theorem dX6_putWalled_19 : decode cX6_putWalled 19 = .ok (.lstore 8, 2) := by decide +kernel
theorem dX6_putWalled_21 : decode cX6_putWalled 21 = .ok (.lload 6, 2) := by decide +kernel
theorem dX6_putWalled_23 : decode cX6_putWalled 23 = .ok (.invokestatic 54, 3) := by decide +kernel
theorem dX6_putWalled_26 : decode cX6_putWalled 26 = .ok (.ifCond .ne 11, 3) := by decide +kernel
theorem dX6_putWalled_29 : decode cX6_putWalled 29 = .ok (.lload 8, 2) := by decide +kernel
theorem dX6_putWalled_31 : decode cX6_putWalled 31 = .ok (.invokestatic 54, 3) := by decide +kernel
theorem dX6_putWalled_34 : decode cX6_putWalled 34 = .ok (.ifCond .eq 9, 3) := by decide +kernel
theorem dX6_putWalled_37 : decode cX6_putWalled 37 = .ok (.aload_n 0, 1) := by decide +kernel
theorem dX6_putWalled_38 : decode cX6_putWalled 38 = .ok (.iconst 5, 1) := by decide +kernel
theorem dX6_putWalled_39 : decode cX6_putWalled 39 = .ok (.invokevirtual 46, 3) := by decide +kernel
theorem dX6_putWalled_42 : decode cX6_putWalled 42 = .ok (.ireturn, 1) := by decide +kernel
theorem dX6_putWalled_43 : decode cX6_putWalled 43 = .ok (.lload 6, 2) := by decide +kernel
theorem dX6_putWalled_45 : decode cX6_putWalled 45 = .ok (.lload_n 2, 1) := by decide +kernel
theorem dX6_putWalled_46 : decode cX6_putWalled 46 = .ok (.lcmp, 1) := by decide +kernel
theorem dX6_putWalled_47 : decode cX6_putWalled 47 = .ok (.ifCond .eq 13, 3) := by decide +kernel
theorem dX6_putWalled_50 : decode cX6_putWalled 50 = .ok (.aload_n 0, 1) := by decide +kernel
theorem dX6_putWalled_51 : decode cX6_putWalled 51 = .ok (.dup, 1) := by decide +kernel
theorem dX6_putWalled_52 : decode cX6_putWalled 52 = .ok (.getfield 172, 3) := by decide +kernel
theorem dX6_putWalled_55 : decode cX6_putWalled 55 = .ok (.iconst 1, 1) := by decide +kernel
theorem dX6_putWalled_56 : decode cX6_putWalled 56 = .ok (.iadd, 1) := by decide +kernel
theorem dX6_putWalled_57 : decode cX6_putWalled 57 = .ok (.putfield 172, 3) := by decide +kernel
theorem dX6_putWalled_60 : decode cX6_putWalled 60 = .ok (.lload 8, 2) := by decide +kernel
theorem dX6_putWalled_62 : decode cX6_putWalled 62 = .ok (.lload 4, 2) := by decide +kernel
theorem dX6_putWalled_64 : decode cX6_putWalled 64 = .ok (.lcmp, 1) := by decide +kernel
theorem dX6_putWalled_65 : decode cX6_putWalled 65 = .ok (.ifCond .eq 13, 3) := by decide +kernel
theorem dX6_putWalled_68 : decode cX6_putWalled 68 = .ok (.aload_n 0, 1) := by decide +kernel
theorem dX6_putWalled_69 : decode cX6_putWalled 69 = .ok (.dup, 1) := by decide +kernel
theorem dX6_putWalled_70 : decode cX6_putWalled 70 = .ok (.getfield 172, 3) := by decide +kernel
theorem dX6_putWalled_73 : decode cX6_putWalled 73 = .ok (.iconst 1, 1) := by decide +kernel
theorem dX6_putWalled_74 : decode cX6_putWalled 74 = .ok (.iadd, 1) := by decide +kernel
theorem dX6_putWalled_75 : decode cX6_putWalled 75 = .ok (.putfield 172, 3) := by decide +kernel
theorem dX6_putWalled_78 : decode cX6_putWalled 78 = .ok (.aload_n 0, 1) := by decide +kernel
theorem dX6_putWalled_79 : decode cX6_putWalled 79 = .ok (.iload_n 1, 1) := by decide +kernel
theorem dX6_putWalled_80 : decode cX6_putWalled 80 = .ok (.lload 6, 2) := by decide +kernel
theorem dX6_putWalled_82 : decode cX6_putWalled 82 = .ok (.lload 8, 2) := by decide +kernel
theorem dX6_putWalled_84 : decode cX6_putWalled 84 = .ok (.invokevirtual 102, 3) := by decide +kernel
theorem dX6_putWalled_87 : decode cX6_putWalled 87 = .ok (.ireturn, 1) := by decide +kernel
set_option maxRecDepth 20000 in
theorem ggX6_put_X4_keep : GoodIn wsX6_put wsX4_keep := goodIn_r _ [8, 9, 10, 11, 12, 13, 32, 33, 34, 35, 36] (by decide +kernel) (by decide +kernel)
set_option maxRecDepth 20000 in
theorem gX6_put_X4_keep : GoodIn wsX6_put (wsV RX6 185 RX4 yX4_keep wsX4_keep) := goodIn_app (goodIn_of _ (by decide +kernel)) ggX6_put_X4_keep
set_option maxRecDepth 20000 in
theorem ggX6_put_X6_finish : GoodIn wsX6_put wsX6_finish := goodIn_r _ [18, 19, 20, 21, 22, 23, 24, 25, 26] (by decide +kernel) (by decide +kernel)
set_option maxRecDepth 20000 in
theorem gX6_put_X6_finish : GoodIn wsX6_put (wsV RX6 72 RX6 yX6_finish wsX6_finish) := goodIn_app (goodIn_of _ (by decide +kernel)) ggX6_put_X6_finish
theorem dX6_put_0 : decode cX6_put 0 = .ok (.aload_n 0, 1) := by decide +kernel
theorem dX6_put_1 : decode cX6_put 1 = .ok (.getfield 24, 3) := by decide +kernel
theorem dX6_put_4 : decode cX6_put 4 = .ok (.iload_n 1, 1) := by decide +kernel
theorem dX6_put_5 : decode cX6_put 5 = .ok (.aload_n 0, 1) := by decide +kernel
theorem dX6_put_6 : decode cX6_put 6 = .ok (.getfield 12, 3) := by decide +kernel
theorem dX6_put_9 : decode cX6_put 9 = .ok (.getfield 76, 3) := by decide +kernel
theorem dX6_put_12 : decode cX6_put 12 = .ok (.iload_n 1, 1) := by decide +kernel
theorem dX6_put_13 : decode cX6_put 13 = .ok (.laload, 1) := by decide +kernel
theorem dX6_put_14 : decode cX6_put 14 = .ok (.aload_n 0, 1) := by decide +kernel
theorem dX6_put_15 : decode cX6_put 15 = .ok (.getfield 18, 3) := by decide +kernel
theorem dX6_put_18 : decode cX6_put 18 = .ok (.getfield 76, 3) := by decide +kernel
theorem dX6_put_21 : decode cX6_put 21 = .ok (.iload_n 1, 1) := by decide +kernel
theorem dX6_put_22 : decode cX6_put 22 = .ok (.laload, 1) := by decide +kernel
theorem dX6_put_23 : decode cX6_put 23 = .ok (.invokevirtual 185, 3) := by decide +kernel
theorem dX6_put_26 : decode cX6_put 26 = .ok (.aload_n 0, 1) := by decide +kernel
theorem dX6_put_27 : decode cX6_put 27 = .ok (.getfield 12, 3) := by decide +kernel
theorem dX6_put_30 : decode cX6_put 30 = .ok (.getfield 76, 3) := by decide +kernel
theorem dX6_put_33 : decode cX6_put 33 = .ok (.iload_n 1, 1) := by decide +kernel
theorem dX6_put_34 : decode cX6_put 34 = .ok (.lload_n 2, 1) := by decide +kernel
theorem dX6_put_35 : decode cX6_put 35 = .ok (.lastore, 1) := by decide +kernel
theorem dX6_put_36 : decode cX6_put 36 = .ok (.aload_n 0, 1) := by decide +kernel
theorem dX6_put_37 : decode cX6_put 37 = .ok (.getfield 18, 3) := by decide +kernel
theorem dX6_put_40 : decode cX6_put 40 = .ok (.getfield 76, 3) := by decide +kernel
theorem dX6_put_43 : decode cX6_put 43 = .ok (.iload_n 1, 1) := by decide +kernel
theorem dX6_put_44 : decode cX6_put 44 = .ok (.lload 4, 2) := by decide +kernel
theorem dX6_put_46 : decode cX6_put 46 = .ok (.lastore, 1) := by decide +kernel
theorem dX6_put_47 : decode cX6_put 47 = .ok (.aload_n 0, 1) := by decide +kernel
theorem dX6_put_48 : decode cX6_put 48 = .ok (.invokevirtual 72, 3) := by decide +kernel
theorem dX6_put_51 : decode cX6_put 51 = .ok (.ireturn, 1) := by decide +kernel
set_option maxRecDepth 20000 in
theorem ggX6_nearestGuide_X1_isInfinite : GoodIn wsX6_nearestGuide wsX1_isInfinite := goodIn_r _ [6, 7, 8] (by decide +kernel) (by decide +kernel)
set_option maxRecDepth 20000 in
theorem gX6_nearestGuide_X1_isInfinite : GoodIn wsX6_nearestGuide (va_wsS RX6 54 yX1_isInfinite wsX1_isInfinite) := goodIn_app (goodIn_of _ (by decide +kernel)) ggX6_nearestGuide_X1_isInfinite
set_option maxRecDepth 20000 in
theorem ggX6_nearestGuide_X0_apart : GoodIn wsX6_nearestGuide wsX0_apart := goodIn_r _ [13, 14, 15, 16, 5, 17, 18, 19, 20, 7, 21, 22, 23, 4, 6, 8, 24, 25, 26, 27, 28, 29, 30, 31, 32, 33, 34, 35, 36, 37, 38, 39, 40, 41, 42, 43, 44, 52, 53, 54, 55, 56] (by decide +kernel) (by decide +kernel)
set_option maxRecDepth 20000 in
theorem gX6_nearestGuide_X0_apart : GoodIn wsX6_nearestGuide (wsV RX6 117 RX0 yX0_apart wsX0_apart) := goodIn_app (goodIn_of _ (by decide +kernel)) ggX6_nearestGuide_X0_apart
theorem dX6_nearestGuide_0 : decode cX6_nearestGuide 0 = .ok (.iconst (-1), 1) := by decide +kernel
theorem dX6_nearestGuide_1 : decode cX6_nearestGuide 1 = .ok (.istore_n 3, 1) := by decide +kernel
theorem dX6_nearestGuide_2 : decode cX6_nearestGuide 2 = .ok (.dconst 0, 1) := by decide +kernel
theorem dX6_nearestGuide_3 : decode cX6_nearestGuide 3 = .ok (.dstore 4, 2) := by decide +kernel
theorem dX6_nearestGuide_5 : decode cX6_nearestGuide 5 = .ok (.iconst 0, 1) := by decide +kernel
theorem dX6_nearestGuide_6 : decode cX6_nearestGuide 6 = .ok (.istore 6, 2) := by decide +kernel
theorem dX6_nearestGuide_8 : decode cX6_nearestGuide 8 = .ok (.iload 6, 2) := by decide +kernel
theorem dX6_nearestGuide_10 : decode cX6_nearestGuide 10 = .ok (.iconst 4, 1) := by decide +kernel
theorem dX6_nearestGuide_11 : decode cX6_nearestGuide 11 = .ok (.if_icmp .ge 59, 3) := by decide +kernel
theorem dX6_nearestGuide_14 : decode cX6_nearestGuide 14 = .ok (.aload_n 0, 1) := by decide +kernel
theorem dX6_nearestGuide_15 : decode cX6_nearestGuide 15 = .ok (.getfield 28, 3) := by decide +kernel
theorem dX6_nearestGuide_18 : decode cX6_nearestGuide 18 = .ok (.iload 6, 2) := by decide +kernel
theorem dX6_nearestGuide_20 : decode cX6_nearestGuide 20 = .ok (.laload, 1) := by decide +kernel
theorem dX6_nearestGuide_21 : decode cX6_nearestGuide 21 = .ok (.invokestatic 54, 3) := by decide +kernel
theorem dX6_nearestGuide_24 : decode cX6_nearestGuide 24 = .ok (.ifCond .ne 40, 3) := by decide +kernel
theorem dX6_nearestGuide_27 : decode cX6_nearestGuide 27 = .ok (.aload_n 0, 1) := by decide +kernel
theorem dX6_nearestGuide_28 : decode cX6_nearestGuide 28 = .ok (.getfield 12, 3) := by decide +kernel
theorem dX6_nearestGuide_31 : decode cX6_nearestGuide 31 = .ok (.lload_n 1, 1) := by decide +kernel
theorem dX6_nearestGuide_32 : decode cX6_nearestGuide 32 = .ok (.aload_n 0, 1) := by decide +kernel
theorem dX6_nearestGuide_33 : decode cX6_nearestGuide 33 = .ok (.getfield 28, 3) := by decide +kernel
theorem dX6_nearestGuide_36 : decode cX6_nearestGuide 36 = .ok (.iload 6, 2) := by decide +kernel
theorem dX6_nearestGuide_38 : decode cX6_nearestGuide 38 = .ok (.laload, 1) := by decide +kernel
theorem dX6_nearestGuide_39 : decode cX6_nearestGuide 39 = .ok (.invokevirtual 117, 3) := by decide +kernel
theorem dX6_nearestGuide_42 : decode cX6_nearestGuide 42 = .ok (.dstore 7, 2) := by decide +kernel
theorem dX6_nearestGuide_44 : decode cX6_nearestGuide 44 = .ok (.iload_n 3, 1) := by decide +kernel
theorem dX6_nearestGuide_45 : decode cX6_nearestGuide 45 = .ok (.iconst (-1), 1) := by decide +kernel
theorem dX6_nearestGuide_46 : decode cX6_nearestGuide 46 = .ok (.if_icmp .eq 11, 3) := by decide +kernel
theorem dX6_nearestGuide_49 : decode cX6_nearestGuide 49 = .ok (.dload 7, 2) := by decide +kernel
theorem dX6_nearestGuide_51 : decode cX6_nearestGuide 51 = .ok (.dload 4, 2) := by decide +kernel
theorem dX6_nearestGuide_53 : decode cX6_nearestGuide 53 = .ok (.dcmp .g, 1) := by decide +kernel
theorem dX6_nearestGuide_54 : decode cX6_nearestGuide 54 = .ok (.ifCond .ge 10, 3) := by decide +kernel
theorem dX6_nearestGuide_57 : decode cX6_nearestGuide 57 = .ok (.iload 6, 2) := by decide +kernel
theorem dX6_nearestGuide_59 : decode cX6_nearestGuide 59 = .ok (.istore_n 3, 1) := by decide +kernel
theorem dX6_nearestGuide_60 : decode cX6_nearestGuide 60 = .ok (.dload 7, 2) := by decide +kernel
theorem dX6_nearestGuide_62 : decode cX6_nearestGuide 62 = .ok (.dstore 4, 2) := by decide +kernel
theorem dX6_nearestGuide_64 : decode cX6_nearestGuide 64 = .ok (.iinc 6 1, 3) := by decide +kernel
theorem dX6_nearestGuide_67 : decode cX6_nearestGuide 67 = .ok (.goto (-59), 3) := by decide +kernel
theorem dX6_nearestGuide_70 : decode cX6_nearestGuide 70 = .ok (.iload_n 3, 1) := by decide +kernel
theorem dX6_nearestGuide_71 : decode cX6_nearestGuide 71 = .ok (.ireturn, 1) := by decide +kernel
set_option maxRecDepth 20000 in
theorem ggX6_distance_X0_apart : GoodIn wsX6_distance wsX0_apart := goodIn_r _ [7, 8, 9, 10, 11, 12, 13, 14, 15, 16, 17, 18, 19, 20, 21, 22, 23, 24, 25, 26, 27, 28, 29, 30, 31, 32, 33, 34, 35, 36, 37, 38, 39, 40, 41, 42, 43, 51, 52, 53, 54, 55] (by decide +kernel) (by decide +kernel)
set_option maxRecDepth 20000 in
theorem gX6_distance_X0_apart : GoodIn wsX6_distance (wsV RX6 117 RX0 yX0_apart wsX0_apart) := goodIn_app (goodIn_of _ (by decide +kernel)) ggX6_distance_X0_apart
theorem dX6_distance_0 : decode cX6_distance 0 = .ok (.aload_n 0, 1) := by decide +kernel
theorem dX6_distance_1 : decode cX6_distance 1 = .ok (.getfield 12, 3) := by decide +kernel
theorem dX6_distance_4 : decode cX6_distance 4 = .ok (.aload_n 0, 1) := by decide +kernel
theorem dX6_distance_5 : decode cX6_distance 5 = .ok (.getfield 12, 3) := by decide +kernel
theorem dX6_distance_8 : decode cX6_distance 8 = .ok (.getfield 76, 3) := by decide +kernel
theorem dX6_distance_11 : decode cX6_distance 11 = .ok (.iload_n 1, 1) := by decide +kernel
theorem dX6_distance_12 : decode cX6_distance 12 = .ok (.laload, 1) := by decide +kernel
theorem dX6_distance_13 : decode cX6_distance 13 = .ok (.aload_n 0, 1) := by decide +kernel
theorem dX6_distance_14 : decode cX6_distance 14 = .ok (.getfield 12, 3) := by decide +kernel
theorem dX6_distance_17 : decode cX6_distance 17 = .ok (.getfield 76, 3) := by decide +kernel
theorem dX6_distance_20 : decode cX6_distance 20 = .ok (.iload_n 2, 1) := by decide +kernel
theorem dX6_distance_21 : decode cX6_distance 21 = .ok (.laload, 1) := by decide +kernel
theorem dX6_distance_22 : decode cX6_distance 22 = .ok (.invokevirtual 117, 3) := by decide +kernel
theorem dX6_distance_25 : decode cX6_distance 25 = .ok (.dstore_n 3, 1) := by decide +kernel
theorem dX6_distance_26 : decode cX6_distance 26 = .ok (.aload_n 0, 1) := by decide +kernel
theorem dX6_distance_27 : decode cX6_distance 27 = .ok (.getfield 18, 3) := by decide +kernel
theorem dX6_distance_30 : decode cX6_distance 30 = .ok (.aload_n 0, 1) := by decide +kernel
theorem dX6_distance_31 : decode cX6_distance 31 = .ok (.getfield 18, 3) := by decide +kernel
theorem dX6_distance_34 : decode cX6_distance 34 = .ok (.getfield 76, 3) := by decide +kernel
theorem dX6_distance_37 : decode cX6_distance 37 = .ok (.iload_n 1, 1) := by decide +kernel
theorem dX6_distance_38 : decode cX6_distance 38 = .ok (.laload, 1) := by decide +kernel
theorem dX6_distance_39 : decode cX6_distance 39 = .ok (.aload_n 0, 1) := by decide +kernel
theorem dX6_distance_40 : decode cX6_distance 40 = .ok (.getfield 18, 3) := by decide +kernel
theorem dX6_distance_43 : decode cX6_distance 43 = .ok (.getfield 76, 3) := by decide +kernel
theorem dX6_distance_46 : decode cX6_distance 46 = .ok (.iload_n 2, 1) := by decide +kernel
theorem dX6_distance_47 : decode cX6_distance 47 = .ok (.laload, 1) := by decide +kernel
theorem dX6_distance_48 : decode cX6_distance 48 = .ok (.invokevirtual 117, 3) := by decide +kernel
theorem dX6_distance_51 : decode cX6_distance 51 = .ok (.dstore 5, 2) := by decide +kernel
theorem dX6_distance_53 : decode cX6_distance 53 = .ok (.dload_n 3, 1) := by decide +kernel
theorem dX6_distance_54 : decode cX6_distance 54 = .ok (.dload 5, 2) := by decide +kernel
theorem dX6_distance_56 : decode cX6_distance 56 = .ok (.dcmp .l, 1) := by decide +kernel
theorem dX6_distance_57 : decode cX6_distance 57 = .ok (.ifCond .lt 7, 3) := by decide +kernel
theorem dX6_distance_60 : decode cX6_distance 60 = .ok (.dload_n 3, 1) := by decide +kernel
theorem dX6_distance_61 : decode cX6_distance 61 = .ok (.goto 5, 3) := by decide +kernel
theorem dX6_distance_64 : decode cX6_distance 64 = .ok (.dload 5, 2) := by decide +kernel
theorem dX6_distance_66 : decode cX6_distance 66 = .ok (.dreturn, 1) := by decide +kernel
set_option maxRecDepth 20000 in
theorem ggX6_cellAt_X0_wholeSteps : GoodIn wsX6_cellAt wsX0_wholeSteps := goodIn_r _ [6, 7, 8, 9, 10, 11, 12, 13, 14, 15, 16, 17, 18, 19, 20, 21, 22, 23, 24, 25, 26, 27, 28, 29, 30, 31, 32, 33, 34, 35, 36, 37, 38, 39, 40, 41, 42, 43, 44, 45, 46, 47, 48, 49, 50, 51, 52, 53, 54, 55, 56, 57, 58, 59, 60, 61, 62, 63, 64, 65, 66, 67, 68, 80, 81, 82, 83, 84] (by decide +kernel) (by decide +kernel)
set_option maxRecDepth 20000 in
theorem gX6_cellAt_X0_wholeSteps : GoodIn wsX6_cellAt (wsV RX6 189 RX0 yX0_wholeSteps wsX0_wholeSteps) := goodIn_app (goodIn_of _ (by decide +kernel)) ggX6_cellAt_X0_wholeSteps
set_option maxRecDepth 20000 in
theorem ggX6_cellAt_X1_value : GoodIn wsX6_cellAt wsX1_value := goodIn_r _ [71, 72, 10, 11, 12, 13, 14, 15, 16, 17, 18, 19, 20, 21, 22, 23, 24, 25, 26, 27, 28, 29, 30, 31, 32, 33, 34, 35, 36, 37, 38, 39, 40] (by decide +kernel) (by decide +kernel)
set_option maxRecDepth 20000 in
theorem gX6_cellAt_X1_value : GoodIn wsX6_cellAt (va_wsS RX6 109 yX1_value wsX1_value) := goodIn_app (goodIn_of _ (by decide +kernel)) ggX6_cellAt_X1_value
theorem dX6_cellAt_0 : decode cX6_cellAt 0 = .ok (.aload_n 0, 1) := by decide +kernel
theorem dX6_cellAt_1 : decode cX6_cellAt 1 = .ok (.getfield 12, 3) := by decide +kernel
theorem dX6_cellAt_4 : decode cX6_cellAt 4 = .ok (.lload_n 1, 1) := by decide +kernel
theorem dX6_cellAt_5 : decode cX6_cellAt 5 = .ok (.iconst 0, 1) := by decide +kernel
theorem dX6_cellAt_6 : decode cX6_cellAt 6 = .ok (.invokevirtual 189, 3) := by decide +kernel
theorem dX6_cellAt_9 : decode cX6_cellAt 9 = .ok (.invokestatic 109, 3) := by decide +kernel
theorem dX6_cellAt_12 : decode cX6_cellAt 12 = .ok (.d2i, 1) := by decide +kernel
theorem dX6_cellAt_13 : decode cX6_cellAt 13 = .ok (.ireturn, 1) := by decide +kernel
set_option maxRecDepth 20000 in
theorem ggX6_markAt_X0_wholeSteps : GoodIn wsX6_markAt wsX0_wholeSteps := goodIn_r _ [6, 7, 8, 9, 10, 11, 12, 13, 14, 15, 16, 17, 18, 19, 20, 21, 22, 23, 24, 25, 26, 27, 28, 29, 30, 31, 32, 33, 34, 35, 36, 37, 38, 39, 40, 41, 42, 43, 44, 45, 46, 47, 48, 49, 50, 51, 52, 53, 54, 55, 56, 57, 58, 59, 60, 61, 62, 63, 64, 65, 66, 67, 68, 80, 81, 82, 83, 84] (by decide +kernel) (by decide +kernel)
set_option maxRecDepth 20000 in
theorem gX6_markAt_X0_wholeSteps : GoodIn wsX6_markAt (wsV RX6 189 RX0 yX0_wholeSteps wsX0_wholeSteps) := goodIn_app (goodIn_of _ (by decide +kernel)) ggX6_markAt_X0_wholeSteps
set_option maxRecDepth 20000 in
theorem ggX6_markAt_X1_value : GoodIn wsX6_markAt wsX1_value := goodIn_r _ [71, 72, 10, 11, 12, 13, 14, 15, 16, 17, 18, 19, 20, 21, 22, 23, 24, 25, 26, 27, 28, 29, 30, 31, 32, 33, 34, 35, 36, 37, 38, 39, 40] (by decide +kernel) (by decide +kernel)
set_option maxRecDepth 20000 in
theorem gX6_markAt_X1_value : GoodIn wsX6_markAt (va_wsS RX6 109 yX1_value wsX1_value) := goodIn_app (goodIn_of _ (by decide +kernel)) ggX6_markAt_X1_value
theorem dX6_markAt_0 : decode cX6_markAt 0 = .ok (.aload_n 0, 1) := by decide +kernel
theorem dX6_markAt_1 : decode cX6_markAt 1 = .ok (.getfield 18, 3) := by decide +kernel
theorem dX6_markAt_4 : decode cX6_markAt 4 = .ok (.lload_n 1, 1) := by decide +kernel
theorem dX6_markAt_5 : decode cX6_markAt 5 = .ok (.iconst 2, 1) := by decide +kernel
theorem dX6_markAt_6 : decode cX6_markAt 6 = .ok (.invokevirtual 189, 3) := by decide +kernel
theorem dX6_markAt_9 : decode cX6_markAt 9 = .ok (.invokestatic 109, 3) := by decide +kernel
theorem dX6_markAt_12 : decode cX6_markAt 12 = .ok (.d2l, 1) := by decide +kernel
theorem dX6_markAt_13 : decode cX6_markAt 13 = .ok (.lreturn, 1) := by decide +kernel
theorem dX7_init_0 : decode cX7_init 0 = .ok (.aload_n 0, 1) := by decide +kernel
theorem dX7_init_1 : decode cX7_init 1 = .ok (.invokespecial 1, 3) := by decide +kernel
theorem dX7_init_4 : decode cX7_init 4 = .ok (.aload_n 0, 1) := by decide +kernel
theorem dX7_init_5 : decode cX7_init 5 = .ok (.bipush 8, 2) := by decide +kernel
theorem dX7_init_7 : decode cX7_init 7 = .ok (.newarray .long, 2) := by decide +kernel
theorem dX7_init_9 : decode cX7_init 9 = .ok (.putfield 7, 3) := by decide +kernel
theorem dX7_init_12 : decode cX7_init 12 = .ok (.aload_n 0, 1) := by decide +kernel
theorem dX7_init_13 : decode cX7_init 13 = .ok (.bipush 8, 2) := by decide +kernel
theorem dX7_init_15 : decode cX7_init 15 = .ok (.newarray .int, 2) := by decide +kernel
theorem dX7_init_17 : decode cX7_init 17 = .ok (.putfield 13, 3) := by decide +kernel
theorem dX7_init_20 : decode cX7_init 20 = .ok (.aload_n 0, 1) := by decide +kernel
theorem dX7_init_21 : decode cX7_init 21 = .ok (.ldc2_w 17, 3) := by decide +kernel
theorem dX7_init_24 : decode cX7_init 24 = .ok (.putfield 19, 3) := by decide +kernel
theorem dX7_init_27 : decode cX7_init 27 = .ok (.aload_n 0, 1) := by decide +kernel
theorem dX7_init_28 : decode cX7_init 28 = .ok (.ldc2_w 23, 3) := by decide +kernel
theorem dX7_init_31 : decode cX7_init 31 = .ok (.putfield 25, 3) := by decide +kernel
theorem dX7_init_34 : decode cX7_init 34 = .ok (.aload_n 0, 1) := by decide +kernel
theorem dX7_init_35 : decode cX7_init 35 = .ok (.ldc2_w 28, 3) := by decide +kernel
theorem dX7_init_38 : decode cX7_init 38 = .ok (.putfield 30, 3) := by decide +kernel
theorem dX7_init_41 : decode cX7_init 41 = .ok (.aload_n 0, 1) := by decide +kernel
theorem dX7_init_42 : decode cX7_init 42 = .ok (.ldc 33, 2) := by decide +kernel
theorem dX7_init_44 : decode cX7_init 44 = .ok (.putfield 34, 3) := by decide +kernel
theorem dX7_init_47 : decode cX7_init 47 = .ok (.aload_n 0, 1) := by decide +kernel
theorem dX7_init_48 : decode cX7_init 48 = .ok (.ldc 38, 2) := by decide +kernel
theorem dX7_init_50 : decode cX7_init 50 = .ok (.putfield 39, 3) := by decide +kernel
theorem dX7_init_53 : decode cX7_init 53 = .ok (.aload_n 0, 1) := by decide +kernel
theorem dX7_init_54 : decode cX7_init 54 = .ok (.ldc 42, 2) := by decide +kernel
theorem dX7_init_56 : decode cX7_init 56 = .ok (.putfield 43, 3) := by decide +kernel
theorem dX7_init_59 : decode cX7_init 59 = .ok (.aload_n 0, 1) := by decide +kernel
theorem dX7_init_60 : decode cX7_init 60 = .ok (.iconst 4, 1) := by decide +kernel
theorem dX7_init_61 : decode cX7_init 61 = .ok (.newarray .long, 2) := by decide +kernel
theorem dX7_init_63 : decode cX7_init 63 = .ok (.putfield 46, 3) := by decide +kernel
theorem dX7_init_66 : decode cX7_init 66 = .ok (.aload_n 0, 1) := by decide +kernel
theorem dX7_init_67 : decode cX7_init 67 = .ok (.iconst 4, 1) := by decide +kernel
theorem dX7_init_68 : decode cX7_init 68 = .ok (.newarray .boolean, 2) := by decide +kernel
theorem dX7_init_70 : decode cX7_init 70 = .ok (.putfield 49, 3) := by decide +kernel
theorem dX7_init_73 : decode cX7_init 73 = .ok (.aload_n 0, 1) := by decide +kernel
theorem dX7_init_74 : decode cX7_init 74 = .ok (.bipush 17, 2) := by decide +kernel
theorem dX7_init_76 : decode cX7_init 76 = .ok (.newarray .int, 2) := by decide +kernel
theorem dX7_init_78 : decode cX7_init 78 = .ok (.putfield 53, 3) := by decide +kernel
theorem dX7_init_81 : decode cX7_init 81 = .ok (.aload_n 0, 1) := by decide +kernel
theorem dX7_init_82 : decode cX7_init 82 = .ok (.bipush 17, 2) := by decide +kernel
theorem dX7_init_84 : decode cX7_init 84 = .ok (.newarray .long, 2) := by decide +kernel
theorem dX7_init_86 : decode cX7_init 86 = .ok (.putfield 56, 3) := by decide +kernel
theorem dX7_init_89 : decode cX7_init 89 = .ok (.aload_n 0, 1) := by decide +kernel
theorem dX7_init_90 : decode cX7_init 90 = .ok (.bipush 17, 2) := by decide +kernel
theorem dX7_init_92 : decode cX7_init 92 = .ok (.newarray .int, 2) := by decide +kernel
theorem dX7_init_94 : decode cX7_init 94 = .ok (.putfield 59, 3) := by decide +kernel
theorem dX7_init_97 : decode cX7_init 97 = .ok (.return_, 1) := by decide +kernel
theorem dX7_of_0 : decode cX7_of 0 = .ok (.lload_n 0, 1) := by decide +kernel
theorem dX7_of_1 : decode cX7_of 1 = .ok (.invokestatic 62, 3) := by decide +kernel
theorem dX7_of_4 : decode cX7_of 4 = .ok (.dreturn, 1) := by decide +kernel
set_option maxRecDepth 20000 in
theorem ggX7_bits_Jxe99ae_doubleToLongBits_ccdee : GoodIn wsX7_bits wsJxe99ae_doubleToLongBits_ccdee := goodIn_r _ [4, 5, 6, 7, 8, 9, 10, 11, 3, 12] (by decide +kernel) (by decide +kernel)
set_option maxRecDepth 20000 in
theorem gX7_bits_Jxe99ae_doubleToLongBits_ccdee : GoodIn wsX7_bits (va_wsS RX7 68 yJxe99ae_doubleToLongBits_ccdee wsJxe99ae_doubleToLongBits_ccdee) := goodIn_app (goodIn_of _ (by decide +kernel)) ggX7_bits_Jxe99ae_doubleToLongBits_ccdee
theorem dX7_bits_0 : decode cX7_bits 0 = .ok (.dload_n 0, 1) := by decide +kernel
theorem dX7_bits_1 : decode cX7_bits 1 = .ok (.invokestatic 68, 3) := by decide +kernel
theorem dX7_bits_4 : decode cX7_bits 4 = .ok (.lreturn, 1) := by decide +kernel
theorem dX7_size_0 : decode cX7_size 0 = .ok (.lload_n 0, 1) := by decide +kernel
theorem dX7_size_1 : decode cX7_size 1 = .ok (.ldc2_w 72, 3) := by decide +kernel
theorem dX7_size_4 : decode cX7_size 4 = .ok (.land, 1) := by decide +kernel
theorem dX7_size_5 : decode cX7_size 5 = .ok (.lreturn, 1) := by decide +kernel
set_option maxRecDepth 20000 in
theorem ggX7_isNone_X7_size : GoodIn wsX7_isNone wsX7_size := goodIn_r _ [5, 6] (by decide +kernel) (by decide +kernel)
set_option maxRecDepth 20000 in
theorem gX7_isNone_X7_size : GoodIn wsX7_isNone (va_wsS RX7 74 yX7_size wsX7_size) := goodIn_app (goodIn_of _ (by decide +kernel)) ggX7_isNone_X7_size
theorem dX7_isNone_0 : decode cX7_isNone 0 = .ok (.lload_n 0, 1) := by decide +kernel
theorem dX7_isNone_1 : decode cX7_isNone 1 = .ok (.invokestatic 74, 3) := by decide +kernel
theorem dX7_isNone_4 : decode cX7_isNone 4 = .ok (.ldc2_w 23, 3) := by decide +kernel
theorem dX7_isNone_7 : decode cX7_isNone 7 = .ok (.lcmp, 1) := by decide +kernel
theorem dX7_isNone_8 : decode cX7_isNone 8 = .ok (.ifCond .le 7, 3) := by decide +kernel
theorem dX7_isNone_11 : decode cX7_isNone 11 = .ok (.iconst 1, 1) := by decide +kernel
theorem dX7_isNone_12 : decode cX7_isNone 12 = .ok (.goto 4, 3) := by decide +kernel
theorem dX7_isNone_15 : decode cX7_isNone 15 = .ok (.iconst 0, 1) := by decide +kernel
theorem dX7_isNone_16 : decode cX7_isNone 16 = .ok (.ireturn, 1) := by decide +kernel
set_option maxRecDepth 20000 in
theorem ggX7_isInfinite_X7_size : GoodIn wsX7_isInfinite wsX7_size := goodIn_r _ [5, 6] (by decide +kernel) (by decide +kernel)
set_option maxRecDepth 20000 in
theorem gX7_isInfinite_X7_size : GoodIn wsX7_isInfinite (va_wsS RX7 74 yX7_size wsX7_size) := goodIn_app (goodIn_of _ (by decide +kernel)) ggX7_isInfinite_X7_size
theorem dX7_isInfinite_0 : decode cX7_isInfinite 0 = .ok (.lload_n 0, 1) := by decide +kernel
theorem dX7_isInfinite_1 : decode cX7_isInfinite 1 = .ok (.invokestatic 74, 3) := by decide +kernel
theorem dX7_isInfinite_4 : decode cX7_isInfinite 4 = .ok (.ldc2_w 23, 3) := by decide +kernel
theorem dX7_isInfinite_7 : decode cX7_isInfinite 7 = .ok (.lcmp, 1) := by decide +kernel
theorem dX7_isInfinite_8 : decode cX7_isInfinite 8 = .ok (.ifCond .ne 7, 3) := by decide +kernel
theorem dX7_isInfinite_11 : decode cX7_isInfinite 11 = .ok (.iconst 1, 1) := by decide +kernel
theorem dX7_isInfinite_12 : decode cX7_isInfinite 12 = .ok (.goto 4, 3) := by decide +kernel
theorem dX7_isInfinite_15 : decode cX7_isInfinite 15 = .ok (.iconst 0, 1) := by decide +kernel
theorem dX7_isInfinite_16 : decode cX7_isInfinite 16 = .ok (.ireturn, 1) := by decide +kernel
set_option maxRecDepth 20000 in
theorem ggX7_order_X7_size : GoodIn wsX7_order wsX7_size := goodIn_r _ [5, 6] (by decide +kernel) (by decide +kernel)
set_option maxRecDepth 20000 in
theorem gX7_order_X7_size : GoodIn wsX7_order (va_wsS RX7 74 yX7_size wsX7_size) := goodIn_app (goodIn_of _ (by decide +kernel)) ggX7_order_X7_size
theorem dX7_order_0 : decode cX7_order 0 = .ok (.lload_n 0, 1) := by decide +kernel
theorem dX7_order_1 : decode cX7_order 1 = .ok (.lconst 0, 1) := by decide +kernel
theorem dX7_order_2 : decode cX7_order 2 = .ok (.lcmp, 1) := by decide +kernel
theorem dX7_order_3 : decode cX7_order 3 = .ok (.ifCond .ge 14, 3) := by decide +kernel
theorem dX7_order_6 : decode cX7_order 6 = .ok (.ldc2_w 78, 3) := by decide +kernel
theorem dX7_order_9 : decode cX7_order 9 = .ok (.lload_n 0, 1) := by decide +kernel
theorem dX7_order_10 : decode cX7_order 10 = .ok (.invokestatic 74, 3) := by decide +kernel
theorem dX7_order_13 : decode cX7_order 13 = .ok (.lsub, 1) := by decide +kernel
theorem dX7_order_14 : decode cX7_order 14 = .ok (.goto 4, 3) := by decide +kernel
theorem dX7_order_17 : decode cX7_order 17 = .ok (.lload_n 0, 1) := by decide +kernel
theorem dX7_order_18 : decode cX7_order 18 = .ok (.lreturn, 1) := by decide +kernel
set_option maxRecDepth 20000 in
theorem ggX7_lesser_X7_order : GoodIn wsX7_lesser wsX7_order := goodIn_r _ [4, 5, 6, 7, 3, 8, 9] (by decide +kernel) (by decide +kernel)
set_option maxRecDepth 20000 in
theorem gX7_lesser_X7_order : GoodIn wsX7_lesser (va_wsS RX7 80 yX7_order wsX7_order) := goodIn_app (goodIn_of _ (by decide +kernel)) ggX7_lesser_X7_order
theorem dX7_lesser_0 : decode cX7_lesser 0 = .ok (.lload_n 0, 1) := by decide +kernel
theorem dX7_lesser_1 : decode cX7_lesser 1 = .ok (.invokestatic 80, 3) := by decide +kernel
theorem dX7_lesser_4 : decode cX7_lesser 4 = .ok (.lload_n 2, 1) := by decide +kernel
theorem dX7_lesser_5 : decode cX7_lesser 5 = .ok (.invokestatic 80, 3) := by decide +kernel
theorem dX7_lesser_8 : decode cX7_lesser 8 = .ok (.lcmp, 1) := by decide +kernel
theorem dX7_lesser_9 : decode cX7_lesser 9 = .ok (.ifCond .ge 7, 3) := by decide +kernel
theorem dX7_lesser_12 : decode cX7_lesser 12 = .ok (.lload_n 0, 1) := by decide +kernel
theorem dX7_lesser_13 : decode cX7_lesser 13 = .ok (.goto 4, 3) := by decide +kernel
theorem dX7_lesser_16 : decode cX7_lesser 16 = .ok (.lload_n 2, 1) := by decide +kernel
theorem dX7_lesser_17 : decode cX7_lesser 17 = .ok (.lreturn, 1) := by decide +kernel
set_option maxRecDepth 20000 in
theorem ggX7_greater_X7_order : GoodIn wsX7_greater wsX7_order := goodIn_r _ [4, 5, 6, 7, 3, 8, 9] (by decide +kernel) (by decide +kernel)
set_option maxRecDepth 20000 in
theorem gX7_greater_X7_order : GoodIn wsX7_greater (va_wsS RX7 80 yX7_order wsX7_order) := goodIn_app (goodIn_of _ (by decide +kernel)) ggX7_greater_X7_order
theorem dX7_greater_0 : decode cX7_greater 0 = .ok (.lload_n 0, 1) := by decide +kernel
theorem dX7_greater_1 : decode cX7_greater 1 = .ok (.invokestatic 80, 3) := by decide +kernel
theorem dX7_greater_4 : decode cX7_greater 4 = .ok (.lload_n 2, 1) := by decide +kernel
theorem dX7_greater_5 : decode cX7_greater 5 = .ok (.invokestatic 80, 3) := by decide +kernel
theorem dX7_greater_8 : decode cX7_greater 8 = .ok (.lcmp, 1) := by decide +kernel
theorem dX7_greater_9 : decode cX7_greater 9 = .ok (.ifCond .le 7, 3) := by decide +kernel
theorem dX7_greater_12 : decode cX7_greater 12 = .ok (.lload_n 0, 1) := by decide +kernel
theorem dX7_greater_13 : decode cX7_greater 13 = .ok (.goto 4, 3) := by decide +kernel
theorem dX7_greater_16 : decode cX7_greater 16 = .ok (.lload_n 2, 1) := by decide +kernel
theorem dX7_greater_17 : decode cX7_greater 17 = .ok (.lreturn, 1) := by decide +kernel
set_option maxRecDepth 20000 in
theorem ggX7_isBelow_X7_order : GoodIn wsX7_isBelow wsX7_order := goodIn_r _ [4, 5, 6, 7, 3, 8, 9] (by decide +kernel) (by decide +kernel)
set_option maxRecDepth 20000 in
theorem gX7_isBelow_X7_order : GoodIn wsX7_isBelow (va_wsS RX7 80 yX7_order wsX7_order) := goodIn_app (goodIn_of _ (by decide +kernel)) ggX7_isBelow_X7_order
set_option maxRecDepth 20000 in
theorem ggX7_isBelow_X7_size : GoodIn wsX7_isBelow wsX7_size := goodIn_r _ [8, 9] (by decide +kernel) (by decide +kernel)
set_option maxRecDepth 20000 in
theorem gX7_isBelow_X7_size : GoodIn wsX7_isBelow (va_wsS RX7 74 yX7_size wsX7_size) := goodIn_app (goodIn_of _ (by decide +kernel)) ggX7_isBelow_X7_size
theorem dX7_isBelow_0 : decode cX7_isBelow 0 = .ok (.lload_n 0, 1) := by decide +kernel
theorem dX7_isBelow_1 : decode cX7_isBelow 1 = .ok (.invokestatic 80, 3) := by decide +kernel
theorem dX7_isBelow_4 : decode cX7_isBelow 4 = .ok (.lload_n 2, 1) := by decide +kernel
theorem dX7_isBelow_5 : decode cX7_isBelow 5 = .ok (.invokestatic 80, 3) := by decide +kernel
theorem dX7_isBelow_8 : decode cX7_isBelow 8 = .ok (.lcmp, 1) := by decide +kernel
theorem dX7_isBelow_9 : decode cX7_isBelow 9 = .ok (.ifCond .ge 25, 3) := by decide +kernel
theorem dX7_isBelow_12 : decode cX7_isBelow 12 = .ok (.lload_n 0, 1) := by decide +kernel
theorem dX7_isBelow_13 : decode cX7_isBelow 13 = .ok (.invokestatic 74, 3) := by decide +kernel
theorem dX7_isBelow_16 : decode cX7_isBelow 16 = .ok (.lconst 0, 1) := by decide +kernel
theorem dX7_isBelow_17 : decode cX7_isBelow 17 = .ok (.lcmp, 1) := by decide +kernel
theorem dX7_isBelow_18 : decode cX7_isBelow 18 = .ok (.ifCond .ne 12, 3) := by decide +kernel
theorem dX7_isBelow_21 : decode cX7_isBelow 21 = .ok (.lload_n 2, 1) := by decide +kernel
theorem dX7_isBelow_22 : decode cX7_isBelow 22 = .ok (.invokestatic 74, 3) := by decide +kernel
theorem dX7_isBelow_25 : decode cX7_isBelow 25 = .ok (.lconst 0, 1) := by decide +kernel
theorem dX7_isBelow_26 : decode cX7_isBelow 26 = .ok (.lcmp, 1) := by decide +kernel
theorem dX7_isBelow_27 : decode cX7_isBelow 27 = .ok (.ifCond .eq 7, 3) := by decide +kernel
theorem dX7_isBelow_30 : decode cX7_isBelow 30 = .ok (.iconst 1, 1) := by decide +kernel
theorem dX7_isBelow_31 : decode cX7_isBelow 31 = .ok (.goto 4, 3) := by decide +kernel
theorem dX7_isBelow_34 : decode cX7_isBelow 34 = .ok (.iconst 0, 1) := by decide +kernel
theorem dX7_isBelow_35 : decode cX7_isBelow 35 = .ok (.ireturn, 1) := by decide +kernel
set_option maxRecDepth 20000 in
theorem ggX7_whole_X7_size : GoodIn wsX7_whole wsX7_size := goodIn_r _ [8, 9] (by decide +kernel) (by decide +kernel)
set_option maxRecDepth 20000 in
theorem gX7_whole_X7_size : GoodIn wsX7_whole (va_wsS RX7 74 yX7_size wsX7_size) := goodIn_app (goodIn_of _ (by decide +kernel)) ggX7_whole_X7_size
set_option maxRecDepth 20000 in
theorem ggX7_whole_X7_isOdd : GoodIn wsX7_whole wsX7_isOdd := goodIn_r _ [12] (by decide +kernel) (by decide +kernel)
set_option maxRecDepth 20000 in
theorem gX7_whole_X7_isOdd : GoodIn wsX7_whole (va_wsS RX7 89 yX7_isOdd wsX7_isOdd) := goodIn_app (goodIn_of _ (by decide +kernel)) ggX7_whole_X7_isOdd
theorem dX7_whole_0 : decode cX7_whole 0 = .ok (.lload_n 0, 1) := by decide +kernel
theorem dX7_whole_1 : decode cX7_whole 1 = .ok (.invokestatic 74, 3) := by decide +kernel
theorem dX7_whole_4 : decode cX7_whole 4 = .ok (.bipush 52, 2) := by decide +kernel
theorem dX7_whole_6 : decode cX7_whole 6 = .ok (.lshr, 1) := by decide +kernel
theorem dX7_whole_7 : decode cX7_whole 7 = .ok (.l2i, 1) := by decide +kernel
theorem dX7_whole_8 : decode cX7_whole 8 = .ok (.sipush 1023, 3) := by decide +kernel
theorem dX7_whole_11 : decode cX7_whole 11 = .ok (.isub, 1) := by decide +kernel
theorem dX7_whole_12 : decode cX7_whole 12 = .ok (.istore_n 3, 1) := by decide +kernel
theorem dX7_whole_13 : decode cX7_whole 13 = .ok (.lload_n 0, 1) := by decide +kernel
theorem dX7_whole_14 : decode cX7_whole 14 = .ok (.ldc2_w 83, 3) := by decide +kernel
theorem dX7_whole_17 : decode cX7_whole 17 = .ok (.land, 1) := by decide +kernel
theorem dX7_whole_18 : decode cX7_whole 18 = .ok (.lstore 4, 2) := by decide +kernel
theorem dX7_whole_20 : decode cX7_whole 20 = .ok (.lload_n 0, 1) := by decide +kernel
theorem dX7_whole_21 : decode cX7_whole 21 = .ok (.invokestatic 74, 3) := by decide +kernel
theorem dX7_whole_24 : decode cX7_whole 24 = .ok (.lstore 6, 2) := by decide +kernel
theorem dX7_whole_26 : decode cX7_whole 26 = .ok (.iload_n 3, 1) := by decide +kernel
theorem dX7_whole_27 : decode cX7_whole 27 = .ok (.bipush 52, 2) := by decide +kernel
theorem dX7_whole_29 : decode cX7_whole 29 = .ok (.if_icmp .ge 10, 3) := by decide +kernel
theorem dX7_whole_32 : decode cX7_whole 32 = .ok (.lload 6, 2) := by decide +kernel
theorem dX7_whole_34 : decode cX7_whole 34 = .ok (.lconst 0, 1) := by decide +kernel
theorem dX7_whole_35 : decode cX7_whole 35 = .ok (.lcmp, 1) := by decide +kernel
theorem dX7_whole_36 : decode cX7_whole 36 = .ok (.ifCond .ne 5, 3) := by decide +kernel
theorem dX7_whole_39 : decode cX7_whole 39 = .ok (.lload_n 0, 1) := by decide +kernel
theorem dX7_whole_40 : decode cX7_whole 40 = .ok (.lreturn, 1) := by decide +kernel
theorem dX7_whole_41 : decode cX7_whole 41 = .ok (.iload_n 2, 1) := by decide +kernel
theorem dX7_whole_42 : decode cX7_whole 42 = .ok (.ifCond .ne 18, 3) := by decide +kernel
theorem dX7_whole_45 : decode cX7_whole 45 = .ok (.lload 4, 2) := by decide +kernel
theorem dX7_whole_47 : decode cX7_whole 47 = .ok (.lconst 0, 1) := by decide +kernel
theorem dX7_whole_48 : decode cX7_whole 48 = .ok (.lcmp, 1) := by decide +kernel
theorem dX7_whole_49 : decode cX7_whole 49 = .ok (.ifCond .eq 7, 3) := by decide +kernel
theorem dX7_whole_52 : decode cX7_whole 52 = .ok (.iconst 1, 1) := by decide +kernel
theorem dX7_whole_53 : decode cX7_whole 53 = .ok (.goto 24, 3) := by decide +kernel
theorem dX7_whole_56 : decode cX7_whole 56 = .ok (.iconst 0, 1) := by decide +kernel
theorem dX7_whole_57 : decode cX7_whole 57 = .ok (.goto 20, 3) := by decide +kernel
theorem dX7_whole_60 : decode cX7_whole 60 = .ok (.iload_n 2, 1) := by decide +kernel
theorem dX7_whole_61 : decode cX7_whole 61 = .ok (.iconst 1, 1) := by decide +kernel
theorem dX7_whole_62 : decode cX7_whole 62 = .ok (.if_icmp .ne 14, 3) := by decide +kernel
theorem dX7_whole_65 : decode cX7_whole 65 = .ok (.lload 4, 2) := by decide +kernel
theorem dX7_whole_67 : decode cX7_whole 67 = .ok (.lconst 0, 1) := by decide +kernel
theorem dX7_whole_68 : decode cX7_whole 68 = .ok (.lcmp, 1) := by decide +kernel
theorem dX7_whole_69 : decode cX7_whole 69 = .ok (.ifCond .ne 7, 3) := by decide +kernel
theorem dX7_whole_72 : decode cX7_whole 72 = .ok (.iconst 1, 1) := by decide +kernel
theorem dX7_whole_73 : decode cX7_whole 73 = .ok (.goto 4, 3) := by decide +kernel
theorem dX7_whole_76 : decode cX7_whole 76 = .ok (.iconst 0, 1) := by decide +kernel
end
section
theorem dX7_whole_77 : decode cX7_whole 77 = .ok (.istore 8, 2) := by decide +kernel
theorem dX7_whole_79 : decode cX7_whole 79 = .ok (.iload_n 3, 1) := by decide +kernel
theorem dX7_whole_80 : decode cX7_whole 80 = .ok (.ifCond .ge 40, 3) := by decide +kernel
theorem dX7_whole_83 : decode cX7_whole 83 = .ok (.iload_n 2, 1) := by decide +kernel
theorem dX7_whole_84 : decode cX7_whole 84 = .ok (.iconst 2, 1) := by decide +kernel
theorem dX7_whole_85 : decode cX7_whole 85 = .ok (.if_icmp .ne 19, 3) := by decide +kernel
theorem dX7_whole_88 : decode cX7_whole 88 = .ok (.lload 6, 2) := by decide +kernel
theorem dX7_whole_90 : decode cX7_whole 90 = .ok (.ldc2_w 85, 3) := by decide +kernel
theorem dX7_whole_93 : decode cX7_whole 93 = .ok (.lcmp, 1) := by decide +kernel
theorem dX7_whole_94 : decode cX7_whole 94 = .ok (.ifCond .le 7, 3) := by decide +kernel
theorem dX7_whole_97 : decode cX7_whole 97 = .ok (.iconst 1, 1) := by decide +kernel
theorem dX7_whole_98 : decode cX7_whole 98 = .ok (.goto 4, 3) := by decide +kernel
theorem dX7_whole_101 : decode cX7_whole 101 = .ok (.iconst 0, 1) := by decide +kernel
theorem dX7_whole_102 : decode cX7_whole 102 = .ok (.istore 8, 2) := by decide +kernel
theorem dX7_whole_104 : decode cX7_whole 104 = .ok (.lload 4, 2) := by decide +kernel
theorem dX7_whole_106 : decode cX7_whole 106 = .ok (.iload 8, 2) := by decide +kernel
theorem dX7_whole_108 : decode cX7_whole 108 = .ok (.ifCond .eq 9, 3) := by decide +kernel
theorem dX7_whole_111 : decode cX7_whole 111 = .ok (.ldc2_w 28, 3) := by decide +kernel
theorem dX7_whole_114 : decode cX7_whole 114 = .ok (.goto 4, 3) := by decide +kernel
theorem dX7_whole_117 : decode cX7_whole 117 = .ok (.lconst 0, 1) := by decide +kernel
theorem dX7_whole_118 : decode cX7_whole 118 = .ok (.lor, 1) := by decide +kernel
theorem dX7_whole_119 : decode cX7_whole 119 = .ok (.lreturn, 1) := by decide +kernel
theorem dX7_whole_120 : decode cX7_whole 120 = .ok (.lconst 1, 1) := by decide +kernel
theorem dX7_whole_121 : decode cX7_whole 121 = .ok (.bipush 52, 2) := by decide +kernel
theorem dX7_whole_123 : decode cX7_whole 123 = .ok (.iload_n 3, 1) := by decide +kernel
theorem dX7_whole_124 : decode cX7_whole 124 = .ok (.isub, 1) := by decide +kernel
theorem dX7_whole_125 : decode cX7_whole 125 = .ok (.lshl, 1) := by decide +kernel
theorem dX7_whole_126 : decode cX7_whole 126 = .ok (.lstore 9, 2) := by decide +kernel
theorem dX7_whole_128 : decode cX7_whole 128 = .ok (.lload 6, 2) := by decide +kernel
theorem dX7_whole_130 : decode cX7_whole 130 = .ok (.lload 9, 2) := by decide +kernel
theorem dX7_whole_132 : decode cX7_whole 132 = .ok (.lconst 1, 1) := by decide +kernel
theorem dX7_whole_133 : decode cX7_whole 133 = .ok (.lsub, 1) := by decide +kernel
theorem dX7_whole_134 : decode cX7_whole 134 = .ok (.land, 1) := by decide +kernel
theorem dX7_whole_135 : decode cX7_whole 135 = .ok (.lstore 11, 2) := by decide +kernel
theorem dX7_whole_137 : decode cX7_whole 137 = .ok (.lload 6, 2) := by decide +kernel
theorem dX7_whole_139 : decode cX7_whole 139 = .ok (.lload 11, 2) := by decide +kernel
theorem dX7_whole_141 : decode cX7_whole 141 = .ok (.lsub, 1) := by decide +kernel
theorem dX7_whole_142 : decode cX7_whole 142 = .ok (.lstore 13, 2) := by decide +kernel
theorem dX7_whole_144 : decode cX7_whole 144 = .ok (.lload 11, 2) := by decide +kernel
theorem dX7_whole_146 : decode cX7_whole 146 = .ok (.lconst 0, 1) := by decide +kernel
theorem dX7_whole_147 : decode cX7_whole 147 = .ok (.lcmp, 1) := by decide +kernel
theorem dX7_whole_148 : decode cX7_whole 148 = .ok (.ifCond .ne 5, 3) := by decide +kernel
theorem dX7_whole_151 : decode cX7_whole 151 = .ok (.lload_n 0, 1) := by decide +kernel
theorem dX7_whole_152 : decode cX7_whole 152 = .ok (.lreturn, 1) := by decide +kernel
theorem dX7_whole_153 : decode cX7_whole 153 = .ok (.iload_n 2, 1) := by decide +kernel
theorem dX7_whole_154 : decode cX7_whole 154 = .ok (.iconst 2, 1) := by decide +kernel
theorem dX7_whole_155 : decode cX7_whole 155 = .ok (.if_icmp .ne 43, 3) := by decide +kernel
theorem dX7_whole_158 : decode cX7_whole 158 = .ok (.lload 11, 2) := by decide +kernel
theorem dX7_whole_160 : decode cX7_whole 160 = .ok (.lload 9, 2) := by decide +kernel
theorem dX7_whole_162 : decode cX7_whole 162 = .ok (.ldc2_w 87, 3) := by decide +kernel
theorem dX7_whole_165 : decode cX7_whole 165 = .ok (.ldiv, 1) := by decide +kernel
theorem dX7_whole_166 : decode cX7_whole 166 = .ok (.lcmp, 1) := by decide +kernel
theorem dX7_whole_167 : decode cX7_whole 167 = .ok (.ifCond .gt 24, 3) := by decide +kernel
theorem dX7_whole_170 : decode cX7_whole 170 = .ok (.lload 11, 2) := by decide +kernel
theorem dX7_whole_172 : decode cX7_whole 172 = .ok (.lload 9, 2) := by decide +kernel
theorem dX7_whole_174 : decode cX7_whole 174 = .ok (.ldc2_w 87, 3) := by decide +kernel
theorem dX7_whole_177 : decode cX7_whole 177 = .ok (.ldiv, 1) := by decide +kernel
theorem dX7_whole_178 : decode cX7_whole 178 = .ok (.lcmp, 1) := by decide +kernel
theorem dX7_whole_179 : decode cX7_whole 179 = .ok (.ifCond .ne 16, 3) := by decide +kernel
theorem dX7_whole_182 : decode cX7_whole 182 = .ok (.lload 13, 2) := by decide +kernel
theorem dX7_whole_184 : decode cX7_whole 184 = .ok (.iload_n 3, 1) := by decide +kernel
theorem dX7_whole_185 : decode cX7_whole 185 = .ok (.invokestatic 89, 3) := by decide +kernel
theorem dX7_whole_188 : decode cX7_whole 188 = .ok (.ifCond .eq 7, 3) := by decide +kernel
theorem dX7_whole_191 : decode cX7_whole 191 = .ok (.iconst 1, 1) := by decide +kernel
theorem dX7_whole_192 : decode cX7_whole 192 = .ok (.goto 4, 3) := by decide +kernel
theorem dX7_whole_195 : decode cX7_whole 195 = .ok (.iconst 0, 1) := by decide +kernel
theorem dX7_whole_196 : decode cX7_whole 196 = .ok (.istore 8, 2) := by decide +kernel
theorem dX7_whole_198 : decode cX7_whole 198 = .ok (.lload 4, 2) := by decide +kernel
theorem dX7_whole_200 : decode cX7_whole 200 = .ok (.iload 8, 2) := by decide +kernel
theorem dX7_whole_202 : decode cX7_whole 202 = .ok (.ifCond .eq 11, 3) := by decide +kernel
theorem dX7_whole_205 : decode cX7_whole 205 = .ok (.lload 13, 2) := by decide +kernel
theorem dX7_whole_207 : decode cX7_whole 207 = .ok (.lload 9, 2) := by decide +kernel
theorem dX7_whole_209 : decode cX7_whole 209 = .ok (.ladd, 1) := by decide +kernel
theorem dX7_whole_210 : decode cX7_whole 210 = .ok (.goto 5, 3) := by decide +kernel
theorem dX7_whole_213 : decode cX7_whole 213 = .ok (.lload 13, 2) := by decide +kernel
theorem dX7_whole_215 : decode cX7_whole 215 = .ok (.lor, 1) := by decide +kernel
theorem dX7_whole_216 : decode cX7_whole 216 = .ok (.lreturn, 1) := by decide +kernel
theorem dX7_isOdd_0 : decode cX7_isOdd 0 = .ok (.iload_n 2, 1) := by decide +kernel
theorem dX7_isOdd_1 : decode cX7_isOdd 1 = .ok (.ifCond .eq 16, 3) := by decide +kernel
theorem dX7_isOdd_4 : decode cX7_isOdd 4 = .ok (.lload_n 0, 1) := by decide +kernel
theorem dX7_isOdd_5 : decode cX7_isOdd 5 = .ok (.bipush 52, 2) := by decide +kernel
theorem dX7_isOdd_7 : decode cX7_isOdd 7 = .ok (.iload_n 2, 1) := by decide +kernel
theorem dX7_isOdd_8 : decode cX7_isOdd 8 = .ok (.isub, 1) := by decide +kernel
theorem dX7_isOdd_9 : decode cX7_isOdd 9 = .ok (.lshr, 1) := by decide +kernel
theorem dX7_isOdd_10 : decode cX7_isOdd 10 = .ok (.lconst 1, 1) := by decide +kernel
theorem dX7_isOdd_11 : decode cX7_isOdd 11 = .ok (.land, 1) := by decide +kernel
theorem dX7_isOdd_12 : decode cX7_isOdd 12 = .ok (.lconst 1, 1) := by decide +kernel
theorem dX7_isOdd_13 : decode cX7_isOdd 13 = .ok (.lcmp, 1) := by decide +kernel
theorem dX7_isOdd_14 : decode cX7_isOdd 14 = .ok (.ifCond .ne 7, 3) := by decide +kernel
theorem dX7_isOdd_17 : decode cX7_isOdd 17 = .ok (.iconst 1, 1) := by decide +kernel
theorem dX7_isOdd_18 : decode cX7_isOdd 18 = .ok (.goto 4, 3) := by decide +kernel
theorem dX7_isOdd_21 : decode cX7_isOdd 21 = .ok (.iconst 0, 1) := by decide +kernel
theorem dX7_isOdd_22 : decode cX7_isOdd 22 = .ok (.ireturn, 1) := by decide +kernel
theorem dX7_whole32_0 : decode cX7_whole32 0 = .ok (.dload_n 0, 1) := by decide +kernel
theorem dX7_whole32_1 : decode cX7_whole32 1 = .ok (.ldc2_w 93, 3) := by decide +kernel
theorem dX7_whole32_4 : decode cX7_whole32 4 = .ok (.dcmp .l, 1) := by decide +kernel
theorem dX7_whole32_5 : decode cX7_whole32 5 = .ok (.ifCond .lt 8, 3) := by decide +kernel
theorem dX7_whole32_8 : decode cX7_whole32 8 = .ok (.ldc 95, 2) := by decide +kernel
theorem dX7_whole32_10 : decode cX7_whole32 10 = .ok (.goto 18, 3) := by decide +kernel
theorem dX7_whole32_13 : decode cX7_whole32 13 = .ok (.dload_n 0, 1) := by decide +kernel
theorem dX7_whole32_14 : decode cX7_whole32 14 = .ok (.ldc2_w 96, 3) := by decide +kernel
theorem dX7_whole32_17 : decode cX7_whole32 17 = .ok (.dcmp .g, 1) := by decide +kernel
theorem dX7_whole32_18 : decode cX7_whole32 18 = .ok (.ifCond .gt 8, 3) := by decide +kernel
theorem dX7_whole32_21 : decode cX7_whole32 21 = .ok (.ldc 98, 2) := by decide +kernel
theorem dX7_whole32_23 : decode cX7_whole32 23 = .ok (.goto 5, 3) := by decide +kernel
theorem dX7_whole32_26 : decode cX7_whole32 26 = .ok (.dload_n 0, 1) := by decide +kernel
theorem dX7_whole32_27 : decode cX7_whole32 27 = .ok (.d2i, 1) := by decide +kernel
theorem dX7_whole32_28 : decode cX7_whole32 28 = .ok (.ireturn, 1) := by decide +kernel
theorem dX7_of4_0 : decode cX7_of4 0 = .ok (.iload_n 0, 1) := by decide +kernel
theorem dX7_of4_1 : decode cX7_of4 1 = .ok (.invokestatic 99, 3) := by decide +kernel
theorem dX7_of4_4 : decode cX7_of4 4 = .ok (.freturn, 1) := by decide +kernel
set_option maxRecDepth 20000 in
theorem ggX7_bits4_Jxf58ca_floatToIntBits_5c35a : GoodIn wsX7_bits4 wsJxf58ca_floatToIntBits_5c35a := goodIn_r _ [4, 5, 6, 7, 8, 9, 10, 11, 3, 12] (by decide +kernel) (by decide +kernel)
set_option maxRecDepth 20000 in
theorem gX7_bits4_Jxf58ca_floatToIntBits_5c35a : GoodIn wsX7_bits4 (va_wsS RX7 105 yJxf58ca_floatToIntBits_5c35a wsJxf58ca_floatToIntBits_5c35a) := goodIn_app (goodIn_of _ (by decide +kernel)) ggX7_bits4_Jxf58ca_floatToIntBits_5c35a
theorem dX7_bits4_0 : decode cX7_bits4 0 = .ok (.fload_n 0, 1) := by decide +kernel
theorem dX7_bits4_1 : decode cX7_bits4 1 = .ok (.invokestatic 105, 3) := by decide +kernel
theorem dX7_bits4_4 : decode cX7_bits4 4 = .ok (.ireturn, 1) := by decide +kernel
theorem dX7_size4_0 : decode cX7_size4 0 = .ok (.iload_n 0, 1) := by decide +kernel
theorem dX7_size4_1 : decode cX7_size4 1 = .ok (.ldc 95, 2) := by decide +kernel
theorem dX7_size4_3 : decode cX7_size4 3 = .ok (.iand, 1) := by decide +kernel
theorem dX7_size4_4 : decode cX7_size4 4 = .ok (.ireturn, 1) := by decide +kernel
set_option maxRecDepth 20000 in
theorem ggX7_isNone4_X7_size4 : GoodIn wsX7_isNone4 wsX7_size4 := goodIn_r _ [5, 6] (by decide +kernel) (by decide +kernel)
set_option maxRecDepth 20000 in
theorem gX7_isNone4_X7_size4 : GoodIn wsX7_isNone4 (va_wsS RX7 109 yX7_size4 wsX7_size4) := goodIn_app (goodIn_of _ (by decide +kernel)) ggX7_isNone4_X7_size4
theorem dX7_isNone4_0 : decode cX7_isNone4 0 = .ok (.iload_n 0, 1) := by decide +kernel
theorem dX7_isNone4_1 : decode cX7_isNone4 1 = .ok (.invokestatic 109, 3) := by decide +kernel
theorem dX7_isNone4_4 : decode cX7_isNone4 4 = .ok (.ldc 38, 2) := by decide +kernel
theorem dX7_isNone4_6 : decode cX7_isNone4 6 = .ok (.if_icmp .le 7, 3) := by decide +kernel
theorem dX7_isNone4_9 : decode cX7_isNone4 9 = .ok (.iconst 1, 1) := by decide +kernel
theorem dX7_isNone4_10 : decode cX7_isNone4 10 = .ok (.goto 4, 3) := by decide +kernel
theorem dX7_isNone4_13 : decode cX7_isNone4 13 = .ok (.iconst 0, 1) := by decide +kernel
theorem dX7_isNone4_14 : decode cX7_isNone4 14 = .ok (.ireturn, 1) := by decide +kernel
set_option maxRecDepth 20000 in
theorem ggX7_isInfinite4_X7_size4 : GoodIn wsX7_isInfinite4 wsX7_size4 := goodIn_r _ [5, 6] (by decide +kernel) (by decide +kernel)
set_option maxRecDepth 20000 in
theorem gX7_isInfinite4_X7_size4 : GoodIn wsX7_isInfinite4 (va_wsS RX7 109 yX7_size4 wsX7_size4) := goodIn_app (goodIn_of _ (by decide +kernel)) ggX7_isInfinite4_X7_size4
theorem dX7_isInfinite4_0 : decode cX7_isInfinite4 0 = .ok (.iload_n 0, 1) := by decide +kernel
theorem dX7_isInfinite4_1 : decode cX7_isInfinite4 1 = .ok (.invokestatic 109, 3) := by decide +kernel
theorem dX7_isInfinite4_4 : decode cX7_isInfinite4 4 = .ok (.ldc 38, 2) := by decide +kernel
theorem dX7_isInfinite4_6 : decode cX7_isInfinite4 6 = .ok (.if_icmp .ne 7, 3) := by decide +kernel
theorem dX7_isInfinite4_9 : decode cX7_isInfinite4 9 = .ok (.iconst 1, 1) := by decide +kernel
theorem dX7_isInfinite4_10 : decode cX7_isInfinite4 10 = .ok (.goto 4, 3) := by decide +kernel
theorem dX7_isInfinite4_13 : decode cX7_isInfinite4 13 = .ok (.iconst 0, 1) := by decide +kernel
theorem dX7_isInfinite4_14 : decode cX7_isInfinite4 14 = .ok (.ireturn, 1) := by decide +kernel
set_option maxRecDepth 20000 in
theorem ggX7_order4_X7_size4 : GoodIn wsX7_order4 wsX7_size4 := goodIn_r _ [4, 5] (by decide +kernel) (by decide +kernel)
set_option maxRecDepth 20000 in
theorem gX7_order4_X7_size4 : GoodIn wsX7_order4 (va_wsS RX7 109 yX7_size4 wsX7_size4) := goodIn_app (goodIn_of _ (by decide +kernel)) ggX7_order4_X7_size4
theorem dX7_order4_0 : decode cX7_order4 0 = .ok (.iload_n 0, 1) := by decide +kernel
theorem dX7_order4_1 : decode cX7_order4 1 = .ok (.ifCond .ge 12, 3) := by decide +kernel
theorem dX7_order4_4 : decode cX7_order4 4 = .ok (.iconst (-1), 1) := by decide +kernel
theorem dX7_order4_5 : decode cX7_order4 5 = .ok (.iload_n 0, 1) := by decide +kernel
theorem dX7_order4_6 : decode cX7_order4 6 = .ok (.invokestatic 109, 3) := by decide +kernel
theorem dX7_order4_9 : decode cX7_order4 9 = .ok (.isub, 1) := by decide +kernel
theorem dX7_order4_10 : decode cX7_order4 10 = .ok (.goto 4, 3) := by decide +kernel
theorem dX7_order4_13 : decode cX7_order4 13 = .ok (.iload_n 0, 1) := by decide +kernel
theorem dX7_order4_14 : decode cX7_order4 14 = .ok (.ireturn, 1) := by decide +kernel
set_option maxRecDepth 20000 in
theorem ggX7_lesser4_X7_order4 : GoodIn wsX7_lesser4 wsX7_order4 := goodIn_r _ [4, 5, 6, 3, 7, 8] (by decide +kernel) (by decide +kernel)
set_option maxRecDepth 20000 in
theorem gX7_lesser4_X7_order4 : GoodIn wsX7_lesser4 (va_wsS RX7 113 yX7_order4 wsX7_order4) := goodIn_app (goodIn_of _ (by decide +kernel)) ggX7_lesser4_X7_order4
theorem dX7_lesser4_0 : decode cX7_lesser4 0 = .ok (.iload_n 0, 1) := by decide +kernel
theorem dX7_lesser4_1 : decode cX7_lesser4 1 = .ok (.invokestatic 113, 3) := by decide +kernel
theorem dX7_lesser4_4 : decode cX7_lesser4 4 = .ok (.iload_n 1, 1) := by decide +kernel
theorem dX7_lesser4_5 : decode cX7_lesser4 5 = .ok (.invokestatic 113, 3) := by decide +kernel
theorem dX7_lesser4_8 : decode cX7_lesser4 8 = .ok (.if_icmp .ge 7, 3) := by decide +kernel
theorem dX7_lesser4_11 : decode cX7_lesser4 11 = .ok (.iload_n 0, 1) := by decide +kernel
theorem dX7_lesser4_12 : decode cX7_lesser4 12 = .ok (.goto 4, 3) := by decide +kernel
theorem dX7_lesser4_15 : decode cX7_lesser4 15 = .ok (.iload_n 1, 1) := by decide +kernel
theorem dX7_lesser4_16 : decode cX7_lesser4 16 = .ok (.ireturn, 1) := by decide +kernel
set_option maxRecDepth 20000 in
theorem ggX7_greater4_X7_order4 : GoodIn wsX7_greater4 wsX7_order4 := goodIn_r _ [4, 5, 6, 3, 7, 8] (by decide +kernel) (by decide +kernel)
set_option maxRecDepth 20000 in
theorem gX7_greater4_X7_order4 : GoodIn wsX7_greater4 (va_wsS RX7 113 yX7_order4 wsX7_order4) := goodIn_app (goodIn_of _ (by decide +kernel)) ggX7_greater4_X7_order4
theorem dX7_greater4_0 : decode cX7_greater4 0 = .ok (.iload_n 0, 1) := by decide +kernel
theorem dX7_greater4_1 : decode cX7_greater4 1 = .ok (.invokestatic 113, 3) := by decide +kernel
theorem dX7_greater4_4 : decode cX7_greater4 4 = .ok (.iload_n 1, 1) := by decide +kernel
theorem dX7_greater4_5 : decode cX7_greater4 5 = .ok (.invokestatic 113, 3) := by decide +kernel
theorem dX7_greater4_8 : decode cX7_greater4 8 = .ok (.if_icmp .le 7, 3) := by decide +kernel
theorem dX7_greater4_11 : decode cX7_greater4 11 = .ok (.iload_n 0, 1) := by decide +kernel
theorem dX7_greater4_12 : decode cX7_greater4 12 = .ok (.goto 4, 3) := by decide +kernel
theorem dX7_greater4_15 : decode cX7_greater4 15 = .ok (.iload_n 1, 1) := by decide +kernel
theorem dX7_greater4_16 : decode cX7_greater4 16 = .ok (.ireturn, 1) := by decide +kernel
set_option maxRecDepth 20000 in
theorem ggX7_isBelow4_X7_order4 : GoodIn wsX7_isBelow4 wsX7_order4 := goodIn_r _ [4, 5, 6, 3, 7, 8] (by decide +kernel) (by decide +kernel)
set_option maxRecDepth 20000 in
theorem gX7_isBelow4_X7_order4 : GoodIn wsX7_isBelow4 (va_wsS RX7 113 yX7_order4 wsX7_order4) := goodIn_app (goodIn_of _ (by decide +kernel)) ggX7_isBelow4_X7_order4
set_option maxRecDepth 20000 in
theorem ggX7_isBelow4_X7_size4 : GoodIn wsX7_isBelow4 wsX7_size4 := goodIn_r _ [7, 8] (by decide +kernel) (by decide +kernel)
set_option maxRecDepth 20000 in
theorem gX7_isBelow4_X7_size4 : GoodIn wsX7_isBelow4 (va_wsS RX7 109 yX7_size4 wsX7_size4) := goodIn_app (goodIn_of _ (by decide +kernel)) ggX7_isBelow4_X7_size4
theorem dX7_isBelow4_0 : decode cX7_isBelow4 0 = .ok (.iload_n 0, 1) := by decide +kernel
theorem dX7_isBelow4_1 : decode cX7_isBelow4 1 = .ok (.invokestatic 113, 3) := by decide +kernel
theorem dX7_isBelow4_4 : decode cX7_isBelow4 4 = .ok (.iload_n 1, 1) := by decide +kernel
theorem dX7_isBelow4_5 : decode cX7_isBelow4 5 = .ok (.invokestatic 113, 3) := by decide +kernel
theorem dX7_isBelow4_8 : decode cX7_isBelow4 8 = .ok (.if_icmp .ge 21, 3) := by decide +kernel
theorem dX7_isBelow4_11 : decode cX7_isBelow4 11 = .ok (.iload_n 0, 1) := by decide +kernel
theorem dX7_isBelow4_12 : decode cX7_isBelow4 12 = .ok (.invokestatic 109, 3) := by decide +kernel
theorem dX7_isBelow4_15 : decode cX7_isBelow4 15 = .ok (.ifCond .ne 10, 3) := by decide +kernel
theorem dX7_isBelow4_18 : decode cX7_isBelow4 18 = .ok (.iload_n 1, 1) := by decide +kernel
theorem dX7_isBelow4_19 : decode cX7_isBelow4 19 = .ok (.invokestatic 109, 3) := by decide +kernel
theorem dX7_isBelow4_22 : decode cX7_isBelow4 22 = .ok (.ifCond .eq 7, 3) := by decide +kernel
theorem dX7_isBelow4_25 : decode cX7_isBelow4 25 = .ok (.iconst 1, 1) := by decide +kernel
theorem dX7_isBelow4_26 : decode cX7_isBelow4 26 = .ok (.goto 4, 3) := by decide +kernel
theorem dX7_isBelow4_29 : decode cX7_isBelow4 29 = .ok (.iconst 0, 1) := by decide +kernel
theorem dX7_isBelow4_30 : decode cX7_isBelow4 30 = .ok (.ireturn, 1) := by decide +kernel
set_option maxRecDepth 20000 in
theorem ggX7_whole4_X7_size4 : GoodIn wsX7_whole4 wsX7_size4 := goodIn_r _ [7, 8] (by decide +kernel) (by decide +kernel)
set_option maxRecDepth 20000 in
theorem gX7_whole4_X7_size4 : GoodIn wsX7_whole4 (va_wsS RX7 109 yX7_size4 wsX7_size4) := goodIn_app (goodIn_of _ (by decide +kernel)) ggX7_whole4_X7_size4
theorem dX7_whole4_0 : decode cX7_whole4 0 = .ok (.iload_n 0, 1) := by decide +kernel
theorem dX7_whole4_1 : decode cX7_whole4 1 = .ok (.invokestatic 109, 3) := by decide +kernel
theorem dX7_whole4_4 : decode cX7_whole4 4 = .ok (.bipush 23, 2) := by decide +kernel
theorem dX7_whole4_6 : decode cX7_whole4 6 = .ok (.ishr, 1) := by decide +kernel
theorem dX7_whole4_7 : decode cX7_whole4 7 = .ok (.bipush 127, 2) := by decide +kernel
theorem dX7_whole4_9 : decode cX7_whole4 9 = .ok (.isub, 1) := by decide +kernel
theorem dX7_whole4_10 : decode cX7_whole4 10 = .ok (.istore_n 2, 1) := by decide +kernel
theorem dX7_whole4_11 : decode cX7_whole4 11 = .ok (.iload_n 0, 1) := by decide +kernel
theorem dX7_whole4_12 : decode cX7_whole4 12 = .ok (.ldc 98, 2) := by decide +kernel
theorem dX7_whole4_14 : decode cX7_whole4 14 = .ok (.iand, 1) := by decide +kernel
theorem dX7_whole4_15 : decode cX7_whole4 15 = .ok (.istore_n 3, 1) := by decide +kernel
theorem dX7_whole4_16 : decode cX7_whole4 16 = .ok (.iload_n 0, 1) := by decide +kernel
theorem dX7_whole4_17 : decode cX7_whole4 17 = .ok (.invokestatic 109, 3) := by decide +kernel
theorem dX7_whole4_20 : decode cX7_whole4 20 = .ok (.istore 4, 2) := by decide +kernel
theorem dX7_whole4_22 : decode cX7_whole4 22 = .ok (.iload_n 2, 1) := by decide +kernel
theorem dX7_whole4_23 : decode cX7_whole4 23 = .ok (.bipush 23, 2) := by decide +kernel
theorem dX7_whole4_25 : decode cX7_whole4 25 = .ok (.if_icmp .ge 8, 3) := by decide +kernel
theorem dX7_whole4_28 : decode cX7_whole4 28 = .ok (.iload 4, 2) := by decide +kernel
theorem dX7_whole4_30 : decode cX7_whole4 30 = .ok (.ifCond .ne 5, 3) := by decide +kernel
theorem dX7_whole4_33 : decode cX7_whole4 33 = .ok (.iload_n 0, 1) := by decide +kernel
theorem dX7_whole4_34 : decode cX7_whole4 34 = .ok (.ireturn, 1) := by decide +kernel
theorem dX7_whole4_35 : decode cX7_whole4 35 = .ok (.iload_n 1, 1) := by decide +kernel
theorem dX7_whole4_36 : decode cX7_whole4 36 = .ok (.ifCond .ne 15, 3) := by decide +kernel
theorem dX7_whole4_39 : decode cX7_whole4 39 = .ok (.iload_n 3, 1) := by decide +kernel
theorem dX7_whole4_40 : decode cX7_whole4 40 = .ok (.ifCond .eq 7, 3) := by decide +kernel
theorem dX7_whole4_43 : decode cX7_whole4 43 = .ok (.iconst 1, 1) := by decide +kernel
theorem dX7_whole4_44 : decode cX7_whole4 44 = .ok (.goto 21, 3) := by decide +kernel
theorem dX7_whole4_47 : decode cX7_whole4 47 = .ok (.iconst 0, 1) := by decide +kernel
theorem dX7_whole4_48 : decode cX7_whole4 48 = .ok (.goto 17, 3) := by decide +kernel
theorem dX7_whole4_51 : decode cX7_whole4 51 = .ok (.iload_n 1, 1) := by decide +kernel
theorem dX7_whole4_52 : decode cX7_whole4 52 = .ok (.iconst 1, 1) := by decide +kernel
theorem dX7_whole4_53 : decode cX7_whole4 53 = .ok (.if_icmp .ne 11, 3) := by decide +kernel
theorem dX7_whole4_56 : decode cX7_whole4 56 = .ok (.iload_n 3, 1) := by decide +kernel
theorem dX7_whole4_57 : decode cX7_whole4 57 = .ok (.ifCond .ne 7, 3) := by decide +kernel
theorem dX7_whole4_60 : decode cX7_whole4 60 = .ok (.iconst 1, 1) := by decide +kernel
theorem dX7_whole4_61 : decode cX7_whole4 61 = .ok (.goto 4, 3) := by decide +kernel
theorem dX7_whole4_64 : decode cX7_whole4 64 = .ok (.iconst 0, 1) := by decide +kernel
theorem dX7_whole4_65 : decode cX7_whole4 65 = .ok (.istore 5, 2) := by decide +kernel
theorem dX7_whole4_67 : decode cX7_whole4 67 = .ok (.iload_n 2, 1) := by decide +kernel
theorem dX7_whole4_68 : decode cX7_whole4 68 = .ok (.ifCond .ge 36, 3) := by decide +kernel
theorem dX7_whole4_71 : decode cX7_whole4 71 = .ok (.iload_n 1, 1) := by decide +kernel
theorem dX7_whole4_72 : decode cX7_whole4 72 = .ok (.iconst 2, 1) := by decide +kernel
theorem dX7_whole4_73 : decode cX7_whole4 73 = .ok (.if_icmp .ne 17, 3) := by decide +kernel
theorem dX7_whole4_76 : decode cX7_whole4 76 = .ok (.iload 4, 2) := by decide +kernel
theorem dX7_whole4_78 : decode cX7_whole4 78 = .ok (.ldc 116, 2) := by decide +kernel
theorem dX7_whole4_80 : decode cX7_whole4 80 = .ok (.if_icmp .le 7, 3) := by decide +kernel
theorem dX7_whole4_83 : decode cX7_whole4 83 = .ok (.iconst 1, 1) := by decide +kernel
theorem dX7_whole4_84 : decode cX7_whole4 84 = .ok (.goto 4, 3) := by decide +kernel
theorem dX7_whole4_87 : decode cX7_whole4 87 = .ok (.iconst 0, 1) := by decide +kernel
theorem dX7_whole4_88 : decode cX7_whole4 88 = .ok (.istore 5, 2) := by decide +kernel
theorem dX7_whole4_90 : decode cX7_whole4 90 = .ok (.iload_n 3, 1) := by decide +kernel
theorem dX7_whole4_91 : decode cX7_whole4 91 = .ok (.iload 5, 2) := by decide +kernel
theorem dX7_whole4_93 : decode cX7_whole4 93 = .ok (.ifCond .eq 8, 3) := by decide +kernel
theorem dX7_whole4_96 : decode cX7_whole4 96 = .ok (.ldc 42, 2) := by decide +kernel
theorem dX7_whole4_98 : decode cX7_whole4 98 = .ok (.goto 4, 3) := by decide +kernel
theorem dX7_whole4_101 : decode cX7_whole4 101 = .ok (.iconst 0, 1) := by decide +kernel
theorem dX7_whole4_102 : decode cX7_whole4 102 = .ok (.ior, 1) := by decide +kernel
theorem dX7_whole4_103 : decode cX7_whole4 103 = .ok (.ireturn, 1) := by decide +kernel
theorem dX7_whole4_104 : decode cX7_whole4 104 = .ok (.iconst 1, 1) := by decide +kernel
theorem dX7_whole4_105 : decode cX7_whole4 105 = .ok (.bipush 23, 2) := by decide +kernel
theorem dX7_whole4_107 : decode cX7_whole4 107 = .ok (.iload_n 2, 1) := by decide +kernel
theorem dX7_whole4_108 : decode cX7_whole4 108 = .ok (.isub, 1) := by decide +kernel
theorem dX7_whole4_109 : decode cX7_whole4 109 = .ok (.ishl, 1) := by decide +kernel
theorem dX7_whole4_110 : decode cX7_whole4 110 = .ok (.istore 6, 2) := by decide +kernel
theorem dX7_whole4_112 : decode cX7_whole4 112 = .ok (.iload 4, 2) := by decide +kernel
theorem dX7_whole4_114 : decode cX7_whole4 114 = .ok (.iload 6, 2) := by decide +kernel
theorem dX7_whole4_116 : decode cX7_whole4 116 = .ok (.iconst 1, 1) := by decide +kernel
theorem dX7_whole4_117 : decode cX7_whole4 117 = .ok (.isub, 1) := by decide +kernel
theorem dX7_whole4_118 : decode cX7_whole4 118 = .ok (.iand, 1) := by decide +kernel
theorem dX7_whole4_119 : decode cX7_whole4 119 = .ok (.istore 7, 2) := by decide +kernel
theorem dX7_whole4_121 : decode cX7_whole4 121 = .ok (.iload 4, 2) := by decide +kernel
theorem dX7_whole4_123 : decode cX7_whole4 123 = .ok (.iload 7, 2) := by decide +kernel
theorem dX7_whole4_125 : decode cX7_whole4 125 = .ok (.isub, 1) := by decide +kernel
theorem dX7_whole4_126 : decode cX7_whole4 126 = .ok (.istore 8, 2) := by decide +kernel
theorem dX7_whole4_128 : decode cX7_whole4 128 = .ok (.iload 7, 2) := by decide +kernel
theorem dX7_whole4_130 : decode cX7_whole4 130 = .ok (.ifCond .ne 5, 3) := by decide +kernel
theorem dX7_whole4_133 : decode cX7_whole4 133 = .ok (.iload_n 0, 1) := by decide +kernel
theorem dX7_whole4_134 : decode cX7_whole4 134 = .ok (.ireturn, 1) := by decide +kernel
theorem dX7_whole4_135 : decode cX7_whole4 135 = .ok (.iload_n 1, 1) := by decide +kernel
theorem dX7_whole4_136 : decode cX7_whole4 136 = .ok (.iconst 2, 1) := by decide +kernel
theorem dX7_whole4_137 : decode cX7_whole4 137 = .ok (.if_icmp .ne 45, 3) := by decide +kernel
theorem dX7_whole4_140 : decode cX7_whole4 140 = .ok (.iload 7, 2) := by decide +kernel
theorem dX7_whole4_142 : decode cX7_whole4 142 = .ok (.iload 6, 2) := by decide +kernel
theorem dX7_whole4_144 : decode cX7_whole4 144 = .ok (.iconst 2, 1) := by decide +kernel
theorem dX7_whole4_145 : decode cX7_whole4 145 = .ok (.idiv, 1) := by decide +kernel
theorem dX7_whole4_146 : decode cX7_whole4 146 = .ok (.if_icmp .gt 29, 3) := by decide +kernel
theorem dX7_whole4_149 : decode cX7_whole4 149 = .ok (.iload 7, 2) := by decide +kernel
theorem dX7_whole4_151 : decode cX7_whole4 151 = .ok (.iload 6, 2) := by decide +kernel
theorem dX7_whole4_153 : decode cX7_whole4 153 = .ok (.iconst 2, 1) := by decide +kernel
theorem dX7_whole4_154 : decode cX7_whole4 154 = .ok (.idiv, 1) := by decide +kernel
theorem dX7_whole4_155 : decode cX7_whole4 155 = .ok (.if_icmp .ne 24, 3) := by decide +kernel
theorem dX7_whole4_158 : decode cX7_whole4 158 = .ok (.iload_n 2, 1) := by decide +kernel
theorem dX7_whole4_159 : decode cX7_whole4 159 = .ok (.ifCond .eq 16, 3) := by decide +kernel
theorem dX7_whole4_162 : decode cX7_whole4 162 = .ok (.iload 8, 2) := by decide +kernel
theorem dX7_whole4_164 : decode cX7_whole4 164 = .ok (.bipush 23, 2) := by decide +kernel
theorem dX7_whole4_166 : decode cX7_whole4 166 = .ok (.iload_n 2, 1) := by decide +kernel
theorem dX7_whole4_167 : decode cX7_whole4 167 = .ok (.isub, 1) := by decide +kernel
theorem dX7_whole4_168 : decode cX7_whole4 168 = .ok (.ishr, 1) := by decide +kernel
theorem dX7_whole4_169 : decode cX7_whole4 169 = .ok (.iconst 1, 1) := by decide +kernel
theorem dX7_whole4_170 : decode cX7_whole4 170 = .ok (.iand, 1) := by decide +kernel
theorem dX7_whole4_171 : decode cX7_whole4 171 = .ok (.iconst 1, 1) := by decide +kernel
theorem dX7_whole4_172 : decode cX7_whole4 172 = .ok (.if_icmp .ne 7, 3) := by decide +kernel
theorem dX7_whole4_175 : decode cX7_whole4 175 = .ok (.iconst 1, 1) := by decide +kernel
theorem dX7_whole4_176 : decode cX7_whole4 176 = .ok (.goto 4, 3) := by decide +kernel
theorem dX7_whole4_179 : decode cX7_whole4 179 = .ok (.iconst 0, 1) := by decide +kernel
theorem dX7_whole4_180 : decode cX7_whole4 180 = .ok (.istore 5, 2) := by decide +kernel
theorem dX7_whole4_182 : decode cX7_whole4 182 = .ok (.iload_n 3, 1) := by decide +kernel
theorem dX7_whole4_183 : decode cX7_whole4 183 = .ok (.iload 5, 2) := by decide +kernel
theorem dX7_whole4_185 : decode cX7_whole4 185 = .ok (.ifCond .eq 11, 3) := by decide +kernel
theorem dX7_whole4_188 : decode cX7_whole4 188 = .ok (.iload 8, 2) := by decide +kernel
theorem dX7_whole4_190 : decode cX7_whole4 190 = .ok (.iload 6, 2) := by decide +kernel
theorem dX7_whole4_192 : decode cX7_whole4 192 = .ok (.iadd, 1) := by decide +kernel
theorem dX7_whole4_193 : decode cX7_whole4 193 = .ok (.goto 5, 3) := by decide +kernel
theorem dX7_whole4_196 : decode cX7_whole4 196 = .ok (.iload 8, 2) := by decide +kernel
theorem dX7_whole4_198 : decode cX7_whole4 198 = .ok (.ior, 1) := by decide +kernel
theorem dX7_whole4_199 : decode cX7_whole4 199 = .ok (.ireturn, 1) := by decide +kernel
theorem dX7_whole64_0 : decode cX7_whole64 0 = .ok (.fload_n 0, 1) := by decide +kernel
theorem dX7_whole64_1 : decode cX7_whole64 1 = .ok (.ldc 117, 2) := by decide +kernel
theorem dX7_whole64_3 : decode cX7_whole64 3 = .ok (.fcmp .l, 1) := by decide +kernel
theorem dX7_whole64_4 : decode cX7_whole64 4 = .ok (.ifCond .lt 9, 3) := by decide +kernel
theorem dX7_whole64_7 : decode cX7_whole64 7 = .ok (.ldc2_w 72, 3) := by decide +kernel
theorem dX7_whole64_10 : decode cX7_whole64 10 = .ok (.goto 18, 3) := by decide +kernel
theorem dX7_whole64_13 : decode cX7_whole64 13 = .ok (.fload_n 0, 1) := by decide +kernel
theorem dX7_whole64_14 : decode cX7_whole64 14 = .ok (.ldc 118, 2) := by decide +kernel
theorem dX7_whole64_16 : decode cX7_whole64 16 = .ok (.fcmp .g, 1) := by decide +kernel
theorem dX7_whole64_17 : decode cX7_whole64 17 = .ok (.ifCond .gt 9, 3) := by decide +kernel
theorem dX7_whole64_20 : decode cX7_whole64 20 = .ok (.ldc2_w 83, 3) := by decide +kernel
theorem dX7_whole64_23 : decode cX7_whole64 23 = .ok (.goto 5, 3) := by decide +kernel
theorem dX7_whole64_26 : decode cX7_whole64 26 = .ok (.fload_n 0, 1) := by decide +kernel
theorem dX7_whole64_27 : decode cX7_whole64 27 = .ok (.f2l, 1) := by decide +kernel
theorem dX7_whole64_28 : decode cX7_whole64 28 = .ok (.lreturn, 1) := by decide +kernel
theorem dX7_isPoint_0 : decode cX7_isPoint 0 = .ok (.iload_n 0, 1) := by decide +kernel
theorem dX7_isPoint_1 : decode cX7_isPoint 1 = .ok (.ifCond .lt 13, 3) := by decide +kernel
theorem dX7_isPoint_4 : decode cX7_isPoint 4 = .ok (.iload_n 0, 1) := by decide +kernel
theorem dX7_isPoint_5 : decode cX7_isPoint 5 = .ok (.bipush 8, 2) := by decide +kernel
theorem dX7_isPoint_7 : decode cX7_isPoint 7 = .ok (.if_icmp .ge 7, 3) := by decide +kernel
theorem dX7_isPoint_10 : decode cX7_isPoint 10 = .ok (.iconst 1, 1) := by decide +kernel
theorem dX7_isPoint_11 : decode cX7_isPoint 11 = .ok (.goto 4, 3) := by decide +kernel
theorem dX7_isPoint_14 : decode cX7_isPoint 14 = .ok (.iconst 0, 1) := by decide +kernel
theorem dX7_isPoint_15 : decode cX7_isPoint 15 = .ok (.ireturn, 1) := by decide +kernel
theorem dX7_refuses_0 : decode cX7_refuses 0 = .ok (.aload_n 0, 1) := by decide +kernel
theorem dX7_refuses_1 : decode cX7_refuses 1 = .ok (.dup, 1) := by decide +kernel
theorem dX7_refuses_2 : decode cX7_refuses 2 = .ok (.getfield 119, 3) := by decide +kernel
theorem dX7_refuses_5 : decode cX7_refuses 5 = .ok (.iconst 1, 1) := by decide +kernel
theorem dX7_refuses_6 : decode cX7_refuses 6 = .ok (.iadd, 1) := by decide +kernel
theorem dX7_refuses_7 : decode cX7_refuses 7 = .ok (.putfield 119, 3) := by decide +kernel
theorem dX7_refuses_10 : decode cX7_refuses 10 = .ok (.iload_n 1, 1) := by decide +kernel
theorem dX7_refuses_11 : decode cX7_refuses 11 = .ok (.ireturn, 1) := by decide +kernel
theorem dX7_does_0 : decode cX7_does 0 = .ok (.aload_n 0, 1) := by decide +kernel
theorem dX7_does_1 : decode cX7_does 1 = .ok (.dup, 1) := by decide +kernel
theorem dX7_does_2 : decode cX7_does 2 = .ok (.getfield 122, 3) := by decide +kernel
theorem dX7_does_5 : decode cX7_does 5 = .ok (.iconst 1, 1) := by decide +kernel
theorem dX7_does_6 : decode cX7_does 6 = .ok (.iadd, 1) := by decide +kernel
theorem dX7_does_7 : decode cX7_does 7 = .ok (.putfield 122, 3) := by decide +kernel
theorem dX7_does_10 : decode cX7_does 10 = .ok (.iconst 0, 1) := by decide +kernel
theorem dX7_does_11 : decode cX7_does 11 = .ok (.ireturn, 1) := by decide +kernel
set_option maxRecDepth 20000 in
theorem ggX7_walled_X7_lesser : GoodIn wsX7_walled wsX7_lesser := goodIn_r _ [6, 7, 8, 5, 9, 10, 11, 12, 13, 14] (by decide +kernel) (by decide +kernel)
set_option maxRecDepth 20000 in
theorem gX7_walled_X7_lesser : GoodIn wsX7_walled (va_wsS RX7 125 yX7_lesser wsX7_lesser) := goodIn_app (goodIn_of _ (by decide +kernel)) ggX7_walled_X7_lesser
set_option maxRecDepth 20000 in
theorem ggX7_walled_X7_greater : GoodIn wsX7_walled wsX7_greater := goodIn_r _ [17, 7, 8, 5, 9, 10, 11, 12, 13, 14] (by decide +kernel) (by decide +kernel)
set_option maxRecDepth 20000 in
theorem gX7_walled_X7_greater : GoodIn wsX7_walled (va_wsS RX7 129 yX7_greater wsX7_greater) := goodIn_app (goodIn_of _ (by decide +kernel)) ggX7_walled_X7_greater
theorem dX7_walled_0 : decode cX7_walled 0 = .ok (.lload_n 1, 1) := by decide +kernel
theorem dX7_walled_1 : decode cX7_walled 1 = .ok (.aload_n 0, 1) := by decide +kernel
theorem dX7_walled_2 : decode cX7_walled 2 = .ok (.getfield 25, 3) := by decide +kernel
theorem dX7_walled_5 : decode cX7_walled 5 = .ok (.invokestatic 125, 3) := by decide +kernel
theorem dX7_walled_8 : decode cX7_walled 8 = .ok (.aload_n 0, 1) := by decide +kernel
theorem dX7_walled_9 : decode cX7_walled 9 = .ok (.getfield 19, 3) := by decide +kernel
theorem dX7_walled_12 : decode cX7_walled 12 = .ok (.invokestatic 129, 3) := by decide +kernel
theorem dX7_walled_15 : decode cX7_walled 15 = .ok (.lreturn, 1) := by decide +kernel
set_option maxRecDepth 20000 in
theorem ggX7_railed_X7_lesser4 : GoodIn wsX7_railed wsX7_lesser4 := goodIn_r _ [6, 7, 8, 5, 9, 10, 11, 12, 13] (by decide +kernel) (by decide +kernel)
set_option maxRecDepth 20000 in
theorem gX7_railed_X7_lesser4 : GoodIn wsX7_railed (va_wsS RX7 132 yX7_lesser4 wsX7_lesser4) := goodIn_app (goodIn_of _ (by decide +kernel)) ggX7_railed_X7_lesser4
set_option maxRecDepth 20000 in
theorem ggX7_railed_X7_greater4 : GoodIn wsX7_railed wsX7_greater4 := goodIn_r _ [16, 7, 8, 5, 9, 10, 11, 12, 13] (by decide +kernel) (by decide +kernel)
set_option maxRecDepth 20000 in
theorem gX7_railed_X7_greater4 : GoodIn wsX7_railed (va_wsS RX7 136 yX7_greater4 wsX7_greater4) := goodIn_app (goodIn_of _ (by decide +kernel)) ggX7_railed_X7_greater4
theorem dX7_railed_0 : decode cX7_railed 0 = .ok (.iload_n 1, 1) := by decide +kernel
theorem dX7_railed_1 : decode cX7_railed 1 = .ok (.aload_n 0, 1) := by decide +kernel
theorem dX7_railed_2 : decode cX7_railed 2 = .ok (.getfield 39, 3) := by decide +kernel
theorem dX7_railed_5 : decode cX7_railed 5 = .ok (.invokestatic 132, 3) := by decide +kernel
theorem dX7_railed_8 : decode cX7_railed 8 = .ok (.aload_n 0, 1) := by decide +kernel
theorem dX7_railed_9 : decode cX7_railed 9 = .ok (.getfield 34, 3) := by decide +kernel
theorem dX7_railed_12 : decode cX7_railed 12 = .ok (.invokestatic 136, 3) := by decide +kernel
theorem dX7_railed_15 : decode cX7_railed 15 = .ok (.ireturn, 1) := by decide +kernel
theorem dX7_keeps_0 : decode cX7_keeps 0 = .ok (.aload_n 0, 1) := by decide +kernel
theorem dX7_keeps_1 : decode cX7_keeps 1 = .ok (.getfield 53, 3) := by decide +kernel
theorem dX7_keeps_4 : decode cX7_keeps 4 = .ok (.aload_n 0, 1) := by decide +kernel
theorem dX7_keeps_5 : decode cX7_keeps 5 = .ok (.getfield 139, 3) := by decide +kernel
theorem dX7_keeps_8 : decode cX7_keeps 8 = .ok (.iload_n 1, 1) := by decide +kernel
theorem dX7_keeps_9 : decode cX7_keeps 9 = .ok (.iastore, 1) := by decide +kernel
theorem dX7_keeps_10 : decode cX7_keeps 10 = .ok (.aload_n 0, 1) := by decide +kernel
theorem dX7_keeps_11 : decode cX7_keeps 11 = .ok (.getfield 56, 3) := by decide +kernel
theorem dX7_keeps_14 : decode cX7_keeps 14 = .ok (.aload_n 0, 1) := by decide +kernel
theorem dX7_keeps_15 : decode cX7_keeps 15 = .ok (.getfield 139, 3) := by decide +kernel
theorem dX7_keeps_18 : decode cX7_keeps 18 = .ok (.aload_n 0, 1) := by decide +kernel
theorem dX7_keeps_19 : decode cX7_keeps 19 = .ok (.getfield 7, 3) := by decide +kernel
theorem dX7_keeps_22 : decode cX7_keeps 22 = .ok (.iload_n 1, 1) := by decide +kernel
theorem dX7_keeps_23 : decode cX7_keeps 23 = .ok (.laload, 1) := by decide +kernel
theorem dX7_keeps_24 : decode cX7_keeps 24 = .ok (.lastore, 1) := by decide +kernel
theorem dX7_keeps_25 : decode cX7_keeps 25 = .ok (.aload_n 0, 1) := by decide +kernel
theorem dX7_keeps_26 : decode cX7_keeps 26 = .ok (.getfield 59, 3) := by decide +kernel
theorem dX7_keeps_29 : decode cX7_keeps 29 = .ok (.aload_n 0, 1) := by decide +kernel
theorem dX7_keeps_30 : decode cX7_keeps 30 = .ok (.getfield 139, 3) := by decide +kernel
theorem dX7_keeps_33 : decode cX7_keeps 33 = .ok (.aload_n 0, 1) := by decide +kernel
theorem dX7_keeps_34 : decode cX7_keeps 34 = .ok (.getfield 13, 3) := by decide +kernel
theorem dX7_keeps_37 : decode cX7_keeps 37 = .ok (.iload_n 1, 1) := by decide +kernel
theorem dX7_keeps_38 : decode cX7_keeps 38 = .ok (.iaload, 1) := by decide +kernel
theorem dX7_keeps_39 : decode cX7_keeps 39 = .ok (.iastore, 1) := by decide +kernel
theorem dX7_keeps_40 : decode cX7_keeps 40 = .ok (.aload_n 0, 1) := by decide +kernel
theorem dX7_keeps_41 : decode cX7_keeps 41 = .ok (.dup, 1) := by decide +kernel
theorem dX7_keeps_42 : decode cX7_keeps 42 = .ok (.getfield 139, 3) := by decide +kernel
theorem dX7_keeps_45 : decode cX7_keeps 45 = .ok (.iconst 1, 1) := by decide +kernel
theorem dX7_keeps_46 : decode cX7_keeps 46 = .ok (.iadd, 1) := by decide +kernel
theorem dX7_keeps_47 : decode cX7_keeps 47 = .ok (.putfield 139, 3) := by decide +kernel
theorem dX7_keeps_50 : decode cX7_keeps 50 = .ok (.aload_n 0, 1) := by decide +kernel
theorem dX7_keeps_51 : decode cX7_keeps 51 = .ok (.getfield 139, 3) := by decide +kernel
theorem dX7_keeps_54 : decode cX7_keeps 54 = .ok (.bipush 16, 2) := by decide +kernel
theorem dX7_keeps_56 : decode cX7_keeps 56 = .ok (.if_icmp .gt 4, 3) := by decide +kernel
theorem dX7_keeps_59 : decode cX7_keeps 59 = .ok (.return_, 1) := by decide +kernel
theorem dX7_keeps_60 : decode cX7_keeps 60 = .ok (.iconst 0, 1) := by decide +kernel
theorem dX7_keeps_61 : decode cX7_keeps 61 = .ok (.istore_n 2, 1) := by decide +kernel
theorem dX7_keeps_62 : decode cX7_keeps 62 = .ok (.iload_n 2, 1) := by decide +kernel
theorem dX7_keeps_63 : decode cX7_keeps 63 = .ok (.bipush 16, 2) := by decide +kernel
theorem dX7_keeps_65 : decode cX7_keeps 65 = .ok (.if_icmp .ge 51, 3) := by decide +kernel
theorem dX7_keeps_68 : decode cX7_keeps 68 = .ok (.aload_n 0, 1) := by decide +kernel
theorem dX7_keeps_69 : decode cX7_keeps 69 = .ok (.getfield 53, 3) := by decide +kernel
theorem dX7_keeps_72 : decode cX7_keeps 72 = .ok (.iload_n 2, 1) := by decide +kernel
theorem dX7_keeps_73 : decode cX7_keeps 73 = .ok (.aload_n 0, 1) := by decide +kernel
theorem dX7_keeps_74 : decode cX7_keeps 74 = .ok (.getfield 53, 3) := by decide +kernel
theorem dX7_keeps_77 : decode cX7_keeps 77 = .ok (.iload_n 2, 1) := by decide +kernel
theorem dX7_keeps_78 : decode cX7_keeps 78 = .ok (.iconst 1, 1) := by decide +kernel
theorem dX7_keeps_79 : decode cX7_keeps 79 = .ok (.iadd, 1) := by decide +kernel
theorem dX7_keeps_80 : decode cX7_keeps 80 = .ok (.iaload, 1) := by decide +kernel
theorem dX7_keeps_81 : decode cX7_keeps 81 = .ok (.iastore, 1) := by decide +kernel
theorem dX7_keeps_82 : decode cX7_keeps 82 = .ok (.aload_n 0, 1) := by decide +kernel
theorem dX7_keeps_83 : decode cX7_keeps 83 = .ok (.getfield 56, 3) := by decide +kernel
theorem dX7_keeps_86 : decode cX7_keeps 86 = .ok (.iload_n 2, 1) := by decide +kernel
theorem dX7_keeps_87 : decode cX7_keeps 87 = .ok (.aload_n 0, 1) := by decide +kernel
theorem dX7_keeps_88 : decode cX7_keeps 88 = .ok (.getfield 56, 3) := by decide +kernel
theorem dX7_keeps_91 : decode cX7_keeps 91 = .ok (.iload_n 2, 1) := by decide +kernel
theorem dX7_keeps_92 : decode cX7_keeps 92 = .ok (.iconst 1, 1) := by decide +kernel
theorem dX7_keeps_93 : decode cX7_keeps 93 = .ok (.iadd, 1) := by decide +kernel
theorem dX7_keeps_94 : decode cX7_keeps 94 = .ok (.laload, 1) := by decide +kernel
theorem dX7_keeps_95 : decode cX7_keeps 95 = .ok (.lastore, 1) := by decide +kernel
theorem dX7_keeps_96 : decode cX7_keeps 96 = .ok (.aload_n 0, 1) := by decide +kernel
theorem dX7_keeps_97 : decode cX7_keeps 97 = .ok (.getfield 59, 3) := by decide +kernel
theorem dX7_keeps_100 : decode cX7_keeps 100 = .ok (.iload_n 2, 1) := by decide +kernel
theorem dX7_keeps_101 : decode cX7_keeps 101 = .ok (.aload_n 0, 1) := by decide +kernel
theorem dX7_keeps_102 : decode cX7_keeps 102 = .ok (.getfield 59, 3) := by decide +kernel
theorem dX7_keeps_105 : decode cX7_keeps 105 = .ok (.iload_n 2, 1) := by decide +kernel
theorem dX7_keeps_106 : decode cX7_keeps 106 = .ok (.iconst 1, 1) := by decide +kernel
theorem dX7_keeps_107 : decode cX7_keeps 107 = .ok (.iadd, 1) := by decide +kernel
theorem dX7_keeps_108 : decode cX7_keeps 108 = .ok (.iaload, 1) := by decide +kernel
theorem dX7_keeps_109 : decode cX7_keeps 109 = .ok (.iastore, 1) := by decide +kernel
theorem dX7_keeps_110 : decode cX7_keeps 110 = .ok (.iinc 2 1, 3) := by decide +kernel
theorem dX7_keeps_113 : decode cX7_keeps 113 = .ok (.goto (-51), 3) := by decide +kernel
theorem dX7_keeps_116 : decode cX7_keeps 116 = .ok (.aload_n 0, 1) := by decide +kernel
theorem dX7_keeps_117 : decode cX7_keeps 117 = .ok (.bipush 16, 2) := by decide +kernel
theorem dX7_keeps_119 : decode cX7_keeps 119 = .ok (.putfield 139, 3) := by decide +kernel
theorem dX7_keeps_122 : decode cX7_keeps 122 = .ok (.return_, 1) := by decide +kernel
set_option maxRecDepth 20000 in
theorem ggX7_comes_X7_walled : GoodIn wsX7_comes wsX7_walled := goodIn_r _ [8, 9, 10, 11, 12, 7, 13, 14, 15, 16, 17, 18, 19, 20, 21, 22, 23, 24, 70, 71, 72, 73, 74, 75, 76, 77, 78, 79, 80, 81, 82, 83, 84, 85, 86] (by decide +kernel) (by decide +kernel)
set_option maxRecDepth 20000 in
theorem gX7_comes_X7_walled : GoodIn wsX7_comes (wsV RX7 142 RX7 yX7_walled wsX7_walled) := goodIn_app (goodIn_of _ (by decide +kernel)) ggX7_comes_X7_walled
set_option maxRecDepth 20000 in
theorem ggX7_comes_X7_railed : GoodIn wsX7_comes wsX7_railed := goodIn_r _ [28, 29, 30, 31, 32, 7, 33, 34, 35, 36, 37, 38, 39, 40, 41, 42, 43, 70, 71, 72, 73, 74, 75, 76, 77, 78, 79, 80, 81, 82, 83, 84, 85, 86] (by decide +kernel) (by decide +kernel)
set_option maxRecDepth 20000 in
theorem gX7_comes_X7_railed : GoodIn wsX7_comes (wsV RX7 145 RX7 yX7_railed wsX7_railed) := goodIn_app (goodIn_of _ (by decide +kernel)) ggX7_comes_X7_railed
set_option maxRecDepth 20000 in
theorem ggX7_comes_X7_isInfinite : GoodIn wsX7_comes wsX7_isInfinite := goodIn_r _ [46, 47, 18, 19, 7, 20, 21] (by decide +kernel) (by decide +kernel)
set_option maxRecDepth 20000 in
theorem gX7_comes_X7_isInfinite : GoodIn wsX7_comes (va_wsS RX7 148 yX7_isInfinite wsX7_isInfinite) := goodIn_app (goodIn_of _ (by decide +kernel)) ggX7_comes_X7_isInfinite
set_option maxRecDepth 20000 in
theorem ggX7_comes_X7_isInfinite4 : GoodIn wsX7_comes wsX7_isInfinite4 := goodIn_r _ [50, 51, 37, 38, 7, 39, 40] (by decide +kernel) (by decide +kernel)
set_option maxRecDepth 20000 in
theorem gX7_comes_X7_isInfinite4 : GoodIn wsX7_comes (va_wsS RX7 152 yX7_isInfinite4 wsX7_isInfinite4) := goodIn_app (goodIn_of _ (by decide +kernel)) ggX7_comes_X7_isInfinite4
set_option maxRecDepth 20000 in
theorem ggX7_comes_X7_refuses : GoodIn wsX7_comes wsX7_refuses := goodIn_r _ [55, 56, 70, 71, 72, 73, 74, 75, 76, 77, 78, 79, 80, 81, 82, 83, 84, 85, 86] (by decide +kernel) (by decide +kernel)
set_option maxRecDepth 20000 in
theorem gX7_comes_X7_refuses : GoodIn wsX7_comes (wsV RX7 156 RX7 yX7_refuses wsX7_refuses) := goodIn_app (goodIn_of _ (by decide +kernel)) ggX7_comes_X7_refuses
set_option maxRecDepth 20000 in
theorem ggX7_comes_X7_keeps : GoodIn wsX7_comes wsX7_keeps := goodIn_r _ [60, 61, 62, 63, 2, 64, 3, 70, 71, 72, 73, 74, 75, 76, 77, 78, 79, 80, 81, 82, 83, 84, 85, 86] (by decide +kernel) (by decide +kernel)
set_option maxRecDepth 20000 in
theorem gX7_comes_X7_keeps : GoodIn wsX7_comes (wsV RX7 159 RX7 yX7_keeps wsX7_keeps) := goodIn_app (goodIn_of _ (by decide +kernel)) ggX7_comes_X7_keeps
set_option maxRecDepth 20000 in
theorem ggX7_comes_X7_does : GoodIn wsX7_comes wsX7_does := goodIn_r _ [68, 69, 70, 71, 72, 73, 74, 75, 76, 77, 78, 79, 80, 81, 82, 83, 84, 85, 86] (by decide +kernel) (by decide +kernel)
set_option maxRecDepth 20000 in
theorem gX7_comes_X7_does : GoodIn wsX7_comes (wsV RX7 166 RX7 yX7_does wsX7_does) := goodIn_app (goodIn_of _ (by decide +kernel)) ggX7_comes_X7_does
theorem dX7_comes_0 : decode cX7_comes 0 = .ok (.aload_n 0, 1) := by decide +kernel
theorem dX7_comes_1 : decode cX7_comes 1 = .ok (.lload_n 2, 1) := by decide +kernel
theorem dX7_comes_2 : decode cX7_comes 2 = .ok (.invokevirtual 142, 3) := by decide +kernel
theorem dX7_comes_5 : decode cX7_comes 5 = .ok (.lstore 5, 2) := by decide +kernel
theorem dX7_comes_7 : decode cX7_comes 7 = .ok (.aload_n 0, 1) := by decide +kernel
theorem dX7_comes_8 : decode cX7_comes 8 = .ok (.iload 4, 2) := by decide +kernel
theorem dX7_comes_10 : decode cX7_comes 10 = .ok (.invokevirtual 145, 3) := by decide +kernel
theorem dX7_comes_13 : decode cX7_comes 13 = .ok (.istore 7, 2) := by decide +kernel
theorem dX7_comes_15 : decode cX7_comes 15 = .ok (.lload 5, 2) := by decide +kernel
theorem dX7_comes_17 : decode cX7_comes 17 = .ok (.invokestatic 148, 3) := by decide +kernel
theorem dX7_comes_20 : decode cX7_comes 20 = .ok (.ifCond .ne 11, 3) := by decide +kernel
theorem dX7_comes_23 : decode cX7_comes 23 = .ok (.iload 7, 2) := by decide +kernel
theorem dX7_comes_25 : decode cX7_comes 25 = .ok (.invokestatic 152, 3) := by decide +kernel
theorem dX7_comes_28 : decode cX7_comes 28 = .ok (.ifCond .eq 9, 3) := by decide +kernel
theorem dX7_comes_31 : decode cX7_comes 31 = .ok (.aload_n 0, 1) := by decide +kernel
theorem dX7_comes_32 : decode cX7_comes 32 = .ok (.iconst 5, 1) := by decide +kernel
theorem dX7_comes_33 : decode cX7_comes 33 = .ok (.invokevirtual 156, 3) := by decide +kernel
theorem dX7_comes_36 : decode cX7_comes 36 = .ok (.ireturn, 1) := by decide +kernel
theorem dX7_comes_37 : decode cX7_comes 37 = .ok (.aload_n 0, 1) := by decide +kernel
theorem dX7_comes_38 : decode cX7_comes 38 = .ok (.iload_n 1, 1) := by decide +kernel
theorem dX7_comes_39 : decode cX7_comes 39 = .ok (.invokevirtual 159, 3) := by decide +kernel
theorem dX7_comes_42 : decode cX7_comes 42 = .ok (.aload_n 0, 1) := by decide +kernel
theorem dX7_comes_43 : decode cX7_comes 43 = .ok (.dup, 1) := by decide +kernel
theorem dX7_comes_44 : decode cX7_comes 44 = .ok (.getfield 163, 3) := by decide +kernel
theorem dX7_comes_47 : decode cX7_comes 47 = .ok (.lload 5, 2) := by decide +kernel
theorem dX7_comes_49 : decode cX7_comes 49 = .ok (.lload_n 2, 1) := by decide +kernel
theorem dX7_comes_50 : decode cX7_comes 50 = .ok (.lcmp, 1) := by decide +kernel
theorem dX7_comes_51 : decode cX7_comes 51 = .ok (.ifCond .eq 7, 3) := by decide +kernel
theorem dX7_comes_54 : decode cX7_comes 54 = .ok (.iconst 1, 1) := by decide +kernel
theorem dX7_comes_55 : decode cX7_comes 55 = .ok (.goto 4, 3) := by decide +kernel
theorem dX7_comes_58 : decode cX7_comes 58 = .ok (.iconst 0, 1) := by decide +kernel
theorem dX7_comes_59 : decode cX7_comes 59 = .ok (.iload 7, 2) := by decide +kernel
theorem dX7_comes_61 : decode cX7_comes 61 = .ok (.iload 4, 2) := by decide +kernel
theorem dX7_comes_63 : decode cX7_comes 63 = .ok (.if_icmp .eq 7, 3) := by decide +kernel
theorem dX7_comes_66 : decode cX7_comes 66 = .ok (.iconst 1, 1) := by decide +kernel
theorem dX7_comes_67 : decode cX7_comes 67 = .ok (.goto 4, 3) := by decide +kernel
theorem dX7_comes_70 : decode cX7_comes 70 = .ok (.iconst 0, 1) := by decide +kernel
theorem dX7_comes_71 : decode cX7_comes 71 = .ok (.iadd, 1) := by decide +kernel
theorem dX7_comes_72 : decode cX7_comes 72 = .ok (.iadd, 1) := by decide +kernel
theorem dX7_comes_73 : decode cX7_comes 73 = .ok (.putfield 163, 3) := by decide +kernel
theorem dX7_comes_76 : decode cX7_comes 76 = .ok (.aload_n 0, 1) := by decide +kernel
theorem dX7_comes_77 : decode cX7_comes 77 = .ok (.getfield 7, 3) := by decide +kernel
theorem dX7_comes_80 : decode cX7_comes 80 = .ok (.iload_n 1, 1) := by decide +kernel
theorem dX7_comes_81 : decode cX7_comes 81 = .ok (.lload 5, 2) := by decide +kernel
theorem dX7_comes_83 : decode cX7_comes 83 = .ok (.lastore, 1) := by decide +kernel
theorem dX7_comes_84 : decode cX7_comes 84 = .ok (.aload_n 0, 1) := by decide +kernel
theorem dX7_comes_85 : decode cX7_comes 85 = .ok (.getfield 13, 3) := by decide +kernel
theorem dX7_comes_88 : decode cX7_comes 88 = .ok (.iload_n 1, 1) := by decide +kernel
theorem dX7_comes_89 : decode cX7_comes 89 = .ok (.iload 7, 2) := by decide +kernel
theorem dX7_comes_91 : decode cX7_comes 91 = .ok (.iastore, 1) := by decide +kernel
theorem dX7_comes_92 : decode cX7_comes 92 = .ok (.aload_n 0, 1) := by decide +kernel
theorem dX7_comes_93 : decode cX7_comes 93 = .ok (.invokevirtual 166, 3) := by decide +kernel
theorem dX7_comes_96 : decode cX7_comes 96 = .ok (.ireturn, 1) := by decide +kernel
set_option maxRecDepth 20000 in
theorem ggX7_place_X7_isPoint : GoodIn wsX7_place wsX7_isPoint := goodIn_r _ [4] (by decide +kernel) (by decide +kernel)
set_option maxRecDepth 20000 in
theorem gX7_place_X7_isPoint : GoodIn wsX7_place (va_wsS RX7 170 yX7_isPoint wsX7_isPoint) := goodIn_app (goodIn_of _ (by decide +kernel)) ggX7_place_X7_isPoint
set_option maxRecDepth 20000 in
theorem ggX7_place_X7_refuses : GoodIn wsX7_place wsX7_refuses := goodIn_r _ [8, 9, 83, 84, 85, 86, 87, 88, 89, 90, 91, 92, 93, 94, 95, 96, 97, 98, 99] (by decide +kernel) (by decide +kernel)
set_option maxRecDepth 20000 in
theorem gX7_place_X7_refuses : GoodIn wsX7_place (wsV RX7 156 RX7 yX7_refuses wsX7_refuses) := goodIn_app (goodIn_of _ (by decide +kernel)) ggX7_place_X7_refuses
set_option maxRecDepth 20000 in
theorem ggX7_place_X7_isNone : GoodIn wsX7_place wsX7_isNone := goodIn_r _ [12, 13, 14, 15, 3, 16, 17] (by decide +kernel) (by decide +kernel)
set_option maxRecDepth 20000 in
theorem gX7_place_X7_isNone : GoodIn wsX7_place (va_wsS RX7 173 yX7_isNone wsX7_isNone) := goodIn_app (goodIn_of _ (by decide +kernel)) ggX7_place_X7_isNone
set_option maxRecDepth 20000 in
theorem ggX7_place_X7_isNone4 : GoodIn wsX7_place wsX7_isNone4 := goodIn_r _ [20, 21, 22, 23, 3, 24, 25] (by decide +kernel) (by decide +kernel)
set_option maxRecDepth 20000 in
theorem gX7_place_X7_isNone4 : GoodIn wsX7_place (va_wsS RX7 176 yX7_isNone4 wsX7_isNone4) := goodIn_app (goodIn_of _ (by decide +kernel)) ggX7_place_X7_isNone4
set_option maxRecDepth 20000 in
theorem ggX7_place_X7_isInfinite : GoodIn wsX7_place wsX7_isInfinite := goodIn_r _ [28, 13, 14, 15, 3, 16, 17] (by decide +kernel) (by decide +kernel)
set_option maxRecDepth 20000 in
theorem gX7_place_X7_isInfinite : GoodIn wsX7_place (va_wsS RX7 148 yX7_isInfinite wsX7_isInfinite) := goodIn_app (goodIn_of _ (by decide +kernel)) ggX7_place_X7_isInfinite
set_option maxRecDepth 20000 in
theorem ggX7_place_X7_isInfinite4 : GoodIn wsX7_place wsX7_isInfinite4 := goodIn_r _ [31, 21, 22, 23, 3, 24, 25] (by decide +kernel) (by decide +kernel)
set_option maxRecDepth 20000 in
theorem gX7_place_X7_isInfinite4 : GoodIn wsX7_place (va_wsS RX7 152 yX7_isInfinite4 wsX7_isInfinite4) := goodIn_app (goodIn_of _ (by decide +kernel)) ggX7_place_X7_isInfinite4
set_option maxRecDepth 20000 in
theorem ggX7_place_X7_comes : GoodIn wsX7_place wsX7_comes := goodIn_r _ [35, 36, 37, 38, 39, 40, 41, 3, 42, 43, 44, 45, 46, 47, 48, 49, 50, 51, 14, 15, 16, 17, 52, 53, 54, 55, 56, 57, 58, 59, 60, 61, 62, 63, 64, 65, 66, 22, 23, 24, 25, 67, 68, 69, 26, 27, 28, 13, 29, 30, 31, 21, 5, 6, 7, 8, 9, 70, 71, 72, 73, 74, 75, 76, 77, 78, 79, 80, 81, 82, 83, 84, 85, 86, 87, 88, 89, 90, 91, 92, 93, 94, 95, 96, 97, 98, 99] (by decide +kernel) (by decide +kernel)
set_option maxRecDepth 20000 in
theorem gX7_place_X7_comes : GoodIn wsX7_place (wsV RX7 179 RX7 yX7_comes wsX7_comes) := goodIn_app (goodIn_of _ (by decide +kernel)) ggX7_place_X7_comes
theorem dX7_place_0 : decode cX7_place 0 = .ok (.iload_n 1, 1) := by decide +kernel
theorem dX7_place_1 : decode cX7_place 1 = .ok (.invokestatic 170, 3) := by decide +kernel
theorem dX7_place_4 : decode cX7_place 4 = .ok (.ifCond .ne 9, 3) := by decide +kernel
theorem dX7_place_7 : decode cX7_place 7 = .ok (.aload_n 0, 1) := by decide +kernel
theorem dX7_place_8 : decode cX7_place 8 = .ok (.iconst 1, 1) := by decide +kernel
theorem dX7_place_9 : decode cX7_place 9 = .ok (.invokevirtual 156, 3) := by decide +kernel
theorem dX7_place_12 : decode cX7_place 12 = .ok (.ireturn, 1) := by decide +kernel
theorem dX7_place_13 : decode cX7_place 13 = .ok (.lload_n 2, 1) := by decide +kernel
theorem dX7_place_14 : decode cX7_place 14 = .ok (.invokestatic 173, 3) := by decide +kernel
theorem dX7_place_17 : decode cX7_place 17 = .ok (.ifCond .ne 11, 3) := by decide +kernel
theorem dX7_place_20 : decode cX7_place 20 = .ok (.iload 4, 2) := by decide +kernel
theorem dX7_place_22 : decode cX7_place 22 = .ok (.invokestatic 176, 3) := by decide +kernel
theorem dX7_place_25 : decode cX7_place 25 = .ok (.ifCond .eq 9, 3) := by decide +kernel
theorem dX7_place_28 : decode cX7_place 28 = .ok (.aload_n 0, 1) := by decide +kernel
theorem dX7_place_29 : decode cX7_place 29 = .ok (.iconst 2, 1) := by decide +kernel
theorem dX7_place_30 : decode cX7_place 30 = .ok (.invokevirtual 156, 3) := by decide +kernel
theorem dX7_place_33 : decode cX7_place 33 = .ok (.ireturn, 1) := by decide +kernel
theorem dX7_place_34 : decode cX7_place 34 = .ok (.lload_n 2, 1) := by decide +kernel
theorem dX7_place_35 : decode cX7_place 35 = .ok (.invokestatic 148, 3) := by decide +kernel
theorem dX7_place_38 : decode cX7_place 38 = .ok (.ifCond .ne 11, 3) := by decide +kernel
theorem dX7_place_41 : decode cX7_place 41 = .ok (.iload 4, 2) := by decide +kernel
theorem dX7_place_43 : decode cX7_place 43 = .ok (.invokestatic 152, 3) := by decide +kernel
theorem dX7_place_46 : decode cX7_place 46 = .ok (.ifCond .eq 9, 3) := by decide +kernel
theorem dX7_place_49 : decode cX7_place 49 = .ok (.aload_n 0, 1) := by decide +kernel
theorem dX7_place_50 : decode cX7_place 50 = .ok (.iconst 3, 1) := by decide +kernel
theorem dX7_place_51 : decode cX7_place 51 = .ok (.invokevirtual 156, 3) := by decide +kernel
theorem dX7_place_54 : decode cX7_place 54 = .ok (.ireturn, 1) := by decide +kernel
theorem dX7_place_55 : decode cX7_place 55 = .ok (.aload_n 0, 1) := by decide +kernel
theorem dX7_place_56 : decode cX7_place 56 = .ok (.iload_n 1, 1) := by decide +kernel
theorem dX7_place_57 : decode cX7_place 57 = .ok (.lload_n 2, 1) := by decide +kernel
theorem dX7_place_58 : decode cX7_place 58 = .ok (.iload 4, 2) := by decide +kernel
theorem dX7_place_60 : decode cX7_place 60 = .ok (.invokevirtual 179, 3) := by decide +kernel
theorem dX7_place_63 : decode cX7_place 63 = .ok (.ireturn, 1) := by decide +kernel
set_option maxRecDepth 20000 in
theorem ggX7_walls_X7_isNone : GoodIn wsX7_walls wsX7_isNone := goodIn_r _ [9, 10, 11, 12, 8, 13, 14] (by decide +kernel) (by decide +kernel)
set_option maxRecDepth 20000 in
theorem gX7_walls_X7_isNone : GoodIn wsX7_walls (va_wsS RX7 173 yX7_isNone wsX7_isNone) := goodIn_app (goodIn_of _ (by decide +kernel)) ggX7_walls_X7_isNone
set_option maxRecDepth 20000 in
theorem ggX7_walls_X7_refuses : GoodIn wsX7_walls wsX7_refuses := goodIn_r _ [18, 19, 42, 43, 44, 45, 46, 47, 48, 49, 50, 51, 52, 53, 54, 55, 56, 57, 58] (by decide +kernel) (by decide +kernel)
set_option maxRecDepth 20000 in
theorem gX7_walls_X7_refuses : GoodIn wsX7_walls (wsV RX7 156 RX7 yX7_refuses wsX7_refuses) := goodIn_app (goodIn_of _ (by decide +kernel)) ggX7_walls_X7_refuses
set_option maxRecDepth 20000 in
theorem ggX7_walls_X7_isBelow : GoodIn wsX7_walls wsX7_isBelow := goodIn_r _ [22, 23, 24, 8, 25, 26, 11, 12, 13, 14] (by decide +kernel) (by decide +kernel)
set_option maxRecDepth 20000 in
theorem gX7_walls_X7_isBelow : GoodIn wsX7_walls (va_wsS RX7 183 yX7_isBelow wsX7_isBelow) := goodIn_app (goodIn_of _ (by decide +kernel)) ggX7_walls_X7_isBelow
set_option maxRecDepth 20000 in
theorem ggX7_walls_X7_walled : GoodIn wsX7_walls wsX7_walled := goodIn_r _ [30, 2, 1, 31, 32, 8, 33, 23, 24, 25, 26, 11, 12, 13, 14, 34, 35, 36, 42, 43, 44, 45, 46, 47, 48, 49, 50, 51, 52, 53, 54, 55, 56, 57, 58] (by decide +kernel) (by decide +kernel)
set_option maxRecDepth 20000 in
theorem gX7_walls_X7_walled : GoodIn wsX7_walls (wsV RX7 142 RX7 yX7_walled wsX7_walled) := goodIn_app (goodIn_of _ (by decide +kernel)) ggX7_walls_X7_walled
set_option maxRecDepth 20000 in
theorem ggX7_walls_X7_does : GoodIn wsX7_walls wsX7_does := goodIn_r _ [40, 41, 42, 43, 44, 45, 46, 47, 48, 49, 50, 51, 52, 53, 54, 55, 56, 57, 58] (by decide +kernel) (by decide +kernel)
set_option maxRecDepth 20000 in
theorem gX7_walls_X7_does : GoodIn wsX7_walls (wsV RX7 166 RX7 yX7_does wsX7_does) := goodIn_app (goodIn_of _ (by decide +kernel)) ggX7_walls_X7_does
theorem dX7_walls_0 : decode cX7_walls 0 = .ok (.lload_n 1, 1) := by decide +kernel
theorem dX7_walls_1 : decode cX7_walls 1 = .ok (.invokestatic 173, 3) := by decide +kernel
theorem dX7_walls_4 : decode cX7_walls 4 = .ok (.ifCond .ne 10, 3) := by decide +kernel
theorem dX7_walls_7 : decode cX7_walls 7 = .ok (.lload_n 3, 1) := by decide +kernel
theorem dX7_walls_8 : decode cX7_walls 8 = .ok (.invokestatic 173, 3) := by decide +kernel
theorem dX7_walls_11 : decode cX7_walls 11 = .ok (.ifCond .eq 9, 3) := by decide +kernel
theorem dX7_walls_14 : decode cX7_walls 14 = .ok (.aload_n 0, 1) := by decide +kernel
theorem dX7_walls_15 : decode cX7_walls 15 = .ok (.iconst 2, 1) := by decide +kernel
theorem dX7_walls_16 : decode cX7_walls 16 = .ok (.invokevirtual 156, 3) := by decide +kernel
theorem dX7_walls_19 : decode cX7_walls 19 = .ok (.ireturn, 1) := by decide +kernel
theorem dX7_walls_20 : decode cX7_walls 20 = .ok (.lload_n 1, 1) := by decide +kernel
theorem dX7_walls_21 : decode cX7_walls 21 = .ok (.lload_n 3, 1) := by decide +kernel
theorem dX7_walls_22 : decode cX7_walls 22 = .ok (.invokestatic 183, 3) := by decide +kernel
theorem dX7_walls_25 : decode cX7_walls 25 = .ok (.ifCond .ne 9, 3) := by decide +kernel
theorem dX7_walls_28 : decode cX7_walls 28 = .ok (.aload_n 0, 1) := by decide +kernel
theorem dX7_walls_29 : decode cX7_walls 29 = .ok (.iconst 4, 1) := by decide +kernel
theorem dX7_walls_30 : decode cX7_walls 30 = .ok (.invokevirtual 156, 3) := by decide +kernel
theorem dX7_walls_33 : decode cX7_walls 33 = .ok (.ireturn, 1) := by decide +kernel
theorem dX7_walls_34 : decode cX7_walls 34 = .ok (.aload_n 0, 1) := by decide +kernel
theorem dX7_walls_35 : decode cX7_walls 35 = .ok (.lload_n 1, 1) := by decide +kernel
theorem dX7_walls_36 : decode cX7_walls 36 = .ok (.putfield 19, 3) := by decide +kernel
theorem dX7_walls_39 : decode cX7_walls 39 = .ok (.aload_n 0, 1) := by decide +kernel
theorem dX7_walls_40 : decode cX7_walls 40 = .ok (.lload_n 3, 1) := by decide +kernel
theorem dX7_walls_41 : decode cX7_walls 41 = .ok (.putfield 25, 3) := by decide +kernel
theorem dX7_walls_44 : decode cX7_walls 44 = .ok (.iconst 0, 1) := by decide +kernel
theorem dX7_walls_45 : decode cX7_walls 45 = .ok (.istore 5, 2) := by decide +kernel
theorem dX7_walls_47 : decode cX7_walls 47 = .ok (.iload 5, 2) := by decide +kernel
theorem dX7_walls_49 : decode cX7_walls 49 = .ok (.bipush 8, 2) := by decide +kernel
theorem dX7_walls_51 : decode cX7_walls 51 = .ok (.if_icmp .ge 54, 3) := by decide +kernel
theorem dX7_walls_54 : decode cX7_walls 54 = .ok (.aload_n 0, 1) := by decide +kernel
theorem dX7_walls_55 : decode cX7_walls 55 = .ok (.aload_n 0, 1) := by decide +kernel
theorem dX7_walls_56 : decode cX7_walls 56 = .ok (.getfield 7, 3) := by decide +kernel
theorem dX7_walls_59 : decode cX7_walls 59 = .ok (.iload 5, 2) := by decide +kernel
theorem dX7_walls_61 : decode cX7_walls 61 = .ok (.laload, 1) := by decide +kernel
theorem dX7_walls_62 : decode cX7_walls 62 = .ok (.invokevirtual 142, 3) := by decide +kernel
theorem dX7_walls_65 : decode cX7_walls 65 = .ok (.lstore 6, 2) := by decide +kernel
theorem dX7_walls_67 : decode cX7_walls 67 = .ok (.lload 6, 2) := by decide +kernel
theorem dX7_walls_69 : decode cX7_walls 69 = .ok (.aload_n 0, 1) := by decide +kernel
theorem dX7_walls_70 : decode cX7_walls 70 = .ok (.getfield 7, 3) := by decide +kernel
theorem dX7_walls_73 : decode cX7_walls 73 = .ok (.iload 5, 2) := by decide +kernel
theorem dX7_walls_75 : decode cX7_walls 75 = .ok (.laload, 1) := by decide +kernel
theorem dX7_walls_76 : decode cX7_walls 76 = .ok (.lcmp, 1) := by decide +kernel
theorem dX7_walls_77 : decode cX7_walls 77 = .ok (.ifCond .eq 13, 3) := by decide +kernel
theorem dX7_walls_80 : decode cX7_walls 80 = .ok (.aload_n 0, 1) := by decide +kernel
theorem dX7_walls_81 : decode cX7_walls 81 = .ok (.dup, 1) := by decide +kernel
theorem dX7_walls_82 : decode cX7_walls 82 = .ok (.getfield 163, 3) := by decide +kernel
theorem dX7_walls_85 : decode cX7_walls 85 = .ok (.iconst 1, 1) := by decide +kernel
theorem dX7_walls_86 : decode cX7_walls 86 = .ok (.iadd, 1) := by decide +kernel
theorem dX7_walls_87 : decode cX7_walls 87 = .ok (.putfield 163, 3) := by decide +kernel
theorem dX7_walls_90 : decode cX7_walls 90 = .ok (.aload_n 0, 1) := by decide +kernel
theorem dX7_walls_91 : decode cX7_walls 91 = .ok (.getfield 7, 3) := by decide +kernel
theorem dX7_walls_94 : decode cX7_walls 94 = .ok (.iload 5, 2) := by decide +kernel
theorem dX7_walls_96 : decode cX7_walls 96 = .ok (.lload 6, 2) := by decide +kernel
theorem dX7_walls_98 : decode cX7_walls 98 = .ok (.lastore, 1) := by decide +kernel
theorem dX7_walls_99 : decode cX7_walls 99 = .ok (.iinc 5 1, 3) := by decide +kernel
theorem dX7_walls_102 : decode cX7_walls 102 = .ok (.goto (-55), 3) := by decide +kernel
theorem dX7_walls_105 : decode cX7_walls 105 = .ok (.aload_n 0, 1) := by decide +kernel
theorem dX7_walls_106 : decode cX7_walls 106 = .ok (.iconst 0, 1) := by decide +kernel
theorem dX7_walls_107 : decode cX7_walls 107 = .ok (.putfield 139, 3) := by decide +kernel
theorem dX7_walls_110 : decode cX7_walls 110 = .ok (.aload_n 0, 1) := by decide +kernel
theorem dX7_walls_111 : decode cX7_walls 111 = .ok (.invokevirtual 166, 3) := by decide +kernel
theorem dX7_walls_114 : decode cX7_walls 114 = .ok (.ireturn, 1) := by decide +kernel
set_option maxRecDepth 20000 in
theorem ggX7_rails_X7_isNone4 : GoodIn wsX7_rails wsX7_isNone4 := goodIn_r _ [9, 10, 11, 12, 8, 13, 14] (by decide +kernel) (by decide +kernel)
set_option maxRecDepth 20000 in
theorem gX7_rails_X7_isNone4 : GoodIn wsX7_rails (va_wsS RX7 176 yX7_isNone4 wsX7_isNone4) := goodIn_app (goodIn_of _ (by decide +kernel)) ggX7_rails_X7_isNone4
set_option maxRecDepth 20000 in
theorem ggX7_rails_X7_refuses : GoodIn wsX7_rails wsX7_refuses := goodIn_r _ [18, 19, 41, 42, 43, 44, 45, 46, 47, 48, 49, 50, 51, 52, 53, 54, 55, 56, 57] (by decide +kernel) (by decide +kernel)
set_option maxRecDepth 20000 in
theorem gX7_rails_X7_refuses : GoodIn wsX7_rails (wsV RX7 156 RX7 yX7_refuses wsX7_refuses) := goodIn_app (goodIn_of _ (by decide +kernel)) ggX7_rails_X7_refuses
set_option maxRecDepth 20000 in
theorem ggX7_rails_X7_isBelow4 : GoodIn wsX7_rails wsX7_isBelow4 := goodIn_r _ [22, 23, 24, 8, 25, 11, 12, 13, 14] (by decide +kernel) (by decide +kernel)
set_option maxRecDepth 20000 in
theorem gX7_rails_X7_isBelow4 : GoodIn wsX7_rails (va_wsS RX7 187 yX7_isBelow4 wsX7_isBelow4) := goodIn_app (goodIn_of _ (by decide +kernel)) ggX7_rails_X7_isBelow4
set_option maxRecDepth 20000 in
theorem ggX7_rails_X7_railed : GoodIn wsX7_rails wsX7_railed := goodIn_r _ [29, 2, 1, 30, 31, 8, 32, 23, 24, 25, 11, 12, 13, 14, 33, 34, 35, 41, 42, 43, 44, 45, 46, 47, 48, 49, 50, 51, 52, 53, 54, 55, 56, 57] (by decide +kernel) (by decide +kernel)
set_option maxRecDepth 20000 in
theorem gX7_rails_X7_railed : GoodIn wsX7_rails (wsV RX7 145 RX7 yX7_railed wsX7_railed) := goodIn_app (goodIn_of _ (by decide +kernel)) ggX7_rails_X7_railed
set_option maxRecDepth 20000 in
theorem ggX7_rails_X7_does : GoodIn wsX7_rails wsX7_does := goodIn_r _ [39, 40, 41, 42, 43, 44, 45, 46, 47, 48, 49, 50, 51, 52, 53, 54, 55, 56, 57] (by decide +kernel) (by decide +kernel)
set_option maxRecDepth 20000 in
theorem gX7_rails_X7_does : GoodIn wsX7_rails (wsV RX7 166 RX7 yX7_does wsX7_does) := goodIn_app (goodIn_of _ (by decide +kernel)) ggX7_rails_X7_does
theorem dX7_rails_0 : decode cX7_rails 0 = .ok (.iload_n 1, 1) := by decide +kernel
theorem dX7_rails_1 : decode cX7_rails 1 = .ok (.invokestatic 176, 3) := by decide +kernel
theorem dX7_rails_4 : decode cX7_rails 4 = .ok (.ifCond .ne 10, 3) := by decide +kernel
theorem dX7_rails_7 : decode cX7_rails 7 = .ok (.iload_n 2, 1) := by decide +kernel
theorem dX7_rails_8 : decode cX7_rails 8 = .ok (.invokestatic 176, 3) := by decide +kernel
theorem dX7_rails_11 : decode cX7_rails 11 = .ok (.ifCond .eq 9, 3) := by decide +kernel
theorem dX7_rails_14 : decode cX7_rails 14 = .ok (.aload_n 0, 1) := by decide +kernel
theorem dX7_rails_15 : decode cX7_rails 15 = .ok (.iconst 2, 1) := by decide +kernel
theorem dX7_rails_16 : decode cX7_rails 16 = .ok (.invokevirtual 156, 3) := by decide +kernel
theorem dX7_rails_19 : decode cX7_rails 19 = .ok (.ireturn, 1) := by decide +kernel
theorem dX7_rails_20 : decode cX7_rails 20 = .ok (.iload_n 1, 1) := by decide +kernel
theorem dX7_rails_21 : decode cX7_rails 21 = .ok (.iload_n 2, 1) := by decide +kernel
theorem dX7_rails_22 : decode cX7_rails 22 = .ok (.invokestatic 187, 3) := by decide +kernel
theorem dX7_rails_25 : decode cX7_rails 25 = .ok (.ifCond .ne 9, 3) := by decide +kernel
theorem dX7_rails_28 : decode cX7_rails 28 = .ok (.aload_n 0, 1) := by decide +kernel
theorem dX7_rails_29 : decode cX7_rails 29 = .ok (.iconst 4, 1) := by decide +kernel
theorem dX7_rails_30 : decode cX7_rails 30 = .ok (.invokevirtual 156, 3) := by decide +kernel
theorem dX7_rails_33 : decode cX7_rails 33 = .ok (.ireturn, 1) := by decide +kernel
theorem dX7_rails_34 : decode cX7_rails 34 = .ok (.aload_n 0, 1) := by decide +kernel
theorem dX7_rails_35 : decode cX7_rails 35 = .ok (.iload_n 1, 1) := by decide +kernel
theorem dX7_rails_36 : decode cX7_rails 36 = .ok (.putfield 34, 3) := by decide +kernel
theorem dX7_rails_39 : decode cX7_rails 39 = .ok (.aload_n 0, 1) := by decide +kernel
theorem dX7_rails_40 : decode cX7_rails 40 = .ok (.iload_n 2, 1) := by decide +kernel
theorem dX7_rails_41 : decode cX7_rails 41 = .ok (.putfield 39, 3) := by decide +kernel
theorem dX7_rails_44 : decode cX7_rails 44 = .ok (.iconst 0, 1) := by decide +kernel
theorem dX7_rails_45 : decode cX7_rails 45 = .ok (.istore_n 3, 1) := by decide +kernel
theorem dX7_rails_46 : decode cX7_rails 46 = .ok (.iload_n 3, 1) := by decide +kernel
theorem dX7_rails_47 : decode cX7_rails 47 = .ok (.bipush 8, 2) := by decide +kernel
theorem dX7_rails_49 : decode cX7_rails 49 = .ok (.if_icmp .ge 50, 3) := by decide +kernel
theorem dX7_rails_52 : decode cX7_rails 52 = .ok (.aload_n 0, 1) := by decide +kernel
theorem dX7_rails_53 : decode cX7_rails 53 = .ok (.aload_n 0, 1) := by decide +kernel
theorem dX7_rails_54 : decode cX7_rails 54 = .ok (.getfield 13, 3) := by decide +kernel
theorem dX7_rails_57 : decode cX7_rails 57 = .ok (.iload_n 3, 1) := by decide +kernel
theorem dX7_rails_58 : decode cX7_rails 58 = .ok (.iaload, 1) := by decide +kernel
theorem dX7_rails_59 : decode cX7_rails 59 = .ok (.invokevirtual 145, 3) := by decide +kernel
theorem dX7_rails_62 : decode cX7_rails 62 = .ok (.istore 4, 2) := by decide +kernel
theorem dX7_rails_64 : decode cX7_rails 64 = .ok (.iload 4, 2) := by decide +kernel
theorem dX7_rails_66 : decode cX7_rails 66 = .ok (.aload_n 0, 1) := by decide +kernel
theorem dX7_rails_67 : decode cX7_rails 67 = .ok (.getfield 13, 3) := by decide +kernel
theorem dX7_rails_70 : decode cX7_rails 70 = .ok (.iload_n 3, 1) := by decide +kernel
theorem dX7_rails_71 : decode cX7_rails 71 = .ok (.iaload, 1) := by decide +kernel
theorem dX7_rails_72 : decode cX7_rails 72 = .ok (.if_icmp .eq 13, 3) := by decide +kernel
theorem dX7_rails_75 : decode cX7_rails 75 = .ok (.aload_n 0, 1) := by decide +kernel
theorem dX7_rails_76 : decode cX7_rails 76 = .ok (.dup, 1) := by decide +kernel
theorem dX7_rails_77 : decode cX7_rails 77 = .ok (.getfield 163, 3) := by decide +kernel
theorem dX7_rails_80 : decode cX7_rails 80 = .ok (.iconst 1, 1) := by decide +kernel
theorem dX7_rails_81 : decode cX7_rails 81 = .ok (.iadd, 1) := by decide +kernel
theorem dX7_rails_82 : decode cX7_rails 82 = .ok (.putfield 163, 3) := by decide +kernel
theorem dX7_rails_85 : decode cX7_rails 85 = .ok (.aload_n 0, 1) := by decide +kernel
theorem dX7_rails_86 : decode cX7_rails 86 = .ok (.getfield 13, 3) := by decide +kernel
theorem dX7_rails_89 : decode cX7_rails 89 = .ok (.iload_n 3, 1) := by decide +kernel
theorem dX7_rails_90 : decode cX7_rails 90 = .ok (.iload 4, 2) := by decide +kernel
theorem dX7_rails_92 : decode cX7_rails 92 = .ok (.iastore, 1) := by decide +kernel
theorem dX7_rails_93 : decode cX7_rails 93 = .ok (.iinc 3 1, 3) := by decide +kernel
theorem dX7_rails_96 : decode cX7_rails 96 = .ok (.goto (-50), 3) := by decide +kernel
theorem dX7_rails_99 : decode cX7_rails 99 = .ok (.aload_n 0, 1) := by decide +kernel
theorem dX7_rails_100 : decode cX7_rails 100 = .ok (.iconst 0, 1) := by decide +kernel
theorem dX7_rails_101 : decode cX7_rails 101 = .ok (.putfield 139, 3) := by decide +kernel
theorem dX7_rails_104 : decode cX7_rails 104 = .ok (.aload_n 0, 1) := by decide +kernel
theorem dX7_rails_105 : decode cX7_rails 105 = .ok (.invokevirtual 166, 3) := by decide +kernel
theorem dX7_rails_108 : decode cX7_rails 108 = .ok (.ireturn, 1) := by decide +kernel
set_option maxRecDepth 20000 in
theorem ggX7_steps_X7_isNone : GoodIn wsX7_steps wsX7_isNone := goodIn_r _ [6, 7, 8, 9, 5, 10, 11] (by decide +kernel) (by decide +kernel)
set_option maxRecDepth 20000 in
theorem gX7_steps_X7_isNone : GoodIn wsX7_steps (va_wsS RX7 173 yX7_isNone wsX7_isNone) := goodIn_app (goodIn_of _ (by decide +kernel)) ggX7_steps_X7_isNone
set_option maxRecDepth 20000 in
theorem ggX7_steps_X7_isNone4 : GoodIn wsX7_steps wsX7_isNone4 := goodIn_r _ [14, 15, 16, 17, 5, 18, 19] (by decide +kernel) (by decide +kernel)
set_option maxRecDepth 20000 in
theorem gX7_steps_X7_isNone4 : GoodIn wsX7_steps (va_wsS RX7 176 yX7_isNone4 wsX7_isNone4) := goodIn_app (goodIn_of _ (by decide +kernel)) ggX7_steps_X7_isNone4
set_option maxRecDepth 20000 in
theorem ggX7_steps_X7_refuses : GoodIn wsX7_steps wsX7_refuses := goodIn_r _ [23, 24, 49, 50, 51, 52, 53, 54, 55, 56, 57, 58, 59, 60, 61, 62, 63, 64, 65] (by decide +kernel) (by decide +kernel)
set_option maxRecDepth 20000 in
theorem gX7_steps_X7_refuses : GoodIn wsX7_steps (wsV RX7 156 RX7 yX7_refuses wsX7_refuses) := goodIn_app (goodIn_of _ (by decide +kernel)) ggX7_steps_X7_refuses
set_option maxRecDepth 20000 in
theorem ggX7_steps_X7_isInfinite : GoodIn wsX7_steps wsX7_isInfinite := goodIn_r _ [27, 7, 8, 9, 5, 10, 11] (by decide +kernel) (by decide +kernel)
set_option maxRecDepth 20000 in
theorem gX7_steps_X7_isInfinite : GoodIn wsX7_steps (va_wsS RX7 148 yX7_isInfinite wsX7_isInfinite) := goodIn_app (goodIn_of _ (by decide +kernel)) ggX7_steps_X7_isInfinite
set_option maxRecDepth 20000 in
theorem ggX7_steps_X7_isInfinite4 : GoodIn wsX7_steps wsX7_isInfinite4 := goodIn_r _ [30, 15, 16, 17, 5, 18, 19] (by decide +kernel) (by decide +kernel)
set_option maxRecDepth 20000 in
theorem gX7_steps_X7_isInfinite4 : GoodIn wsX7_steps (va_wsS RX7 152 yX7_isInfinite4 wsX7_isInfinite4) := goodIn_app (goodIn_of _ (by decide +kernel)) ggX7_steps_X7_isInfinite4
set_option maxRecDepth 20000 in
theorem ggX7_steps_X7_isBelow : GoodIn wsX7_steps wsX7_isBelow := goodIn_r _ [33, 34, 35, 5, 36, 37, 8, 9, 10, 11] (by decide +kernel) (by decide +kernel)
set_option maxRecDepth 20000 in
theorem gX7_steps_X7_isBelow : GoodIn wsX7_steps (va_wsS RX7 183 yX7_isBelow wsX7_isBelow) := goodIn_app (goodIn_of _ (by decide +kernel)) ggX7_steps_X7_isBelow
set_option maxRecDepth 20000 in
theorem ggX7_steps_X7_isBelow4 : GoodIn wsX7_steps wsX7_isBelow4 := goodIn_r _ [40, 41, 42, 5, 43, 16, 17, 18, 19] (by decide +kernel) (by decide +kernel)
set_option maxRecDepth 20000 in
theorem gX7_steps_X7_isBelow4 : GoodIn wsX7_steps (va_wsS RX7 187 yX7_isBelow4 wsX7_isBelow4) := goodIn_app (goodIn_of _ (by decide +kernel)) ggX7_steps_X7_isBelow4
set_option maxRecDepth 20000 in
theorem ggX7_steps_X7_does : GoodIn wsX7_steps wsX7_does := goodIn_r _ [47, 48, 49, 50, 51, 52, 53, 54, 55, 56, 57, 58, 59, 60, 61, 62, 63, 64, 65] (by decide +kernel) (by decide +kernel)
set_option maxRecDepth 20000 in
theorem gX7_steps_X7_does : GoodIn wsX7_steps (wsV RX7 166 RX7 yX7_does wsX7_does) := goodIn_app (goodIn_of _ (by decide +kernel)) ggX7_steps_X7_does
theorem dX7_steps_0 : decode cX7_steps 0 = .ok (.lload_n 1, 1) := by decide +kernel
theorem dX7_steps_1 : decode cX7_steps 1 = .ok (.invokestatic 173, 3) := by decide +kernel
theorem dX7_steps_4 : decode cX7_steps 4 = .ok (.ifCond .ne 10, 3) := by decide +kernel
theorem dX7_steps_7 : decode cX7_steps 7 = .ok (.iload_n 3, 1) := by decide +kernel
theorem dX7_steps_8 : decode cX7_steps 8 = .ok (.invokestatic 176, 3) := by decide +kernel
theorem dX7_steps_11 : decode cX7_steps 11 = .ok (.ifCond .eq 9, 3) := by decide +kernel
theorem dX7_steps_14 : decode cX7_steps 14 = .ok (.aload_n 0, 1) := by decide +kernel
theorem dX7_steps_15 : decode cX7_steps 15 = .ok (.iconst 2, 1) := by decide +kernel
theorem dX7_steps_16 : decode cX7_steps 16 = .ok (.invokevirtual 156, 3) := by decide +kernel
theorem dX7_steps_19 : decode cX7_steps 19 = .ok (.ireturn, 1) := by decide +kernel
theorem dX7_steps_20 : decode cX7_steps 20 = .ok (.lload_n 1, 1) := by decide +kernel
theorem dX7_steps_21 : decode cX7_steps 21 = .ok (.invokestatic 148, 3) := by decide +kernel
theorem dX7_steps_24 : decode cX7_steps 24 = .ok (.ifCond .ne 10, 3) := by decide +kernel
theorem dX7_steps_27 : decode cX7_steps 27 = .ok (.iload_n 3, 1) := by decide +kernel
theorem dX7_steps_28 : decode cX7_steps 28 = .ok (.invokestatic 152, 3) := by decide +kernel
theorem dX7_steps_31 : decode cX7_steps 31 = .ok (.ifCond .eq 9, 3) := by decide +kernel
theorem dX7_steps_34 : decode cX7_steps 34 = .ok (.aload_n 0, 1) := by decide +kernel
theorem dX7_steps_35 : decode cX7_steps 35 = .ok (.iconst 3, 1) := by decide +kernel
theorem dX7_steps_36 : decode cX7_steps 36 = .ok (.invokevirtual 156, 3) := by decide +kernel
theorem dX7_steps_39 : decode cX7_steps 39 = .ok (.ireturn, 1) := by decide +kernel
theorem dX7_steps_40 : decode cX7_steps 40 = .ok (.lconst 0, 1) := by decide +kernel
theorem dX7_steps_41 : decode cX7_steps 41 = .ok (.lload_n 1, 1) := by decide +kernel
theorem dX7_steps_42 : decode cX7_steps 42 = .ok (.invokestatic 183, 3) := by decide +kernel
theorem dX7_steps_45 : decode cX7_steps 45 = .ok (.ifCond .eq 11, 3) := by decide +kernel
theorem dX7_steps_48 : decode cX7_steps 48 = .ok (.iconst 0, 1) := by decide +kernel
theorem dX7_steps_49 : decode cX7_steps 49 = .ok (.iload_n 3, 1) := by decide +kernel
theorem dX7_steps_50 : decode cX7_steps 50 = .ok (.invokestatic 187, 3) := by decide +kernel
theorem dX7_steps_53 : decode cX7_steps 53 = .ok (.ifCond .ne 9, 3) := by decide +kernel
theorem dX7_steps_56 : decode cX7_steps 56 = .ok (.aload_n 0, 1) := by decide +kernel
theorem dX7_steps_57 : decode cX7_steps 57 = .ok (.iconst 4, 1) := by decide +kernel
theorem dX7_steps_58 : decode cX7_steps 58 = .ok (.invokevirtual 156, 3) := by decide +kernel
theorem dX7_steps_61 : decode cX7_steps 61 = .ok (.ireturn, 1) := by decide +kernel
theorem dX7_steps_62 : decode cX7_steps 62 = .ok (.aload_n 0, 1) := by decide +kernel
theorem dX7_steps_63 : decode cX7_steps 63 = .ok (.lload_n 1, 1) := by decide +kernel
theorem dX7_steps_64 : decode cX7_steps 64 = .ok (.putfield 30, 3) := by decide +kernel
theorem dX7_steps_67 : decode cX7_steps 67 = .ok (.aload_n 0, 1) := by decide +kernel
theorem dX7_steps_68 : decode cX7_steps 68 = .ok (.iload_n 3, 1) := by decide +kernel
theorem dX7_steps_69 : decode cX7_steps 69 = .ok (.putfield 43, 3) := by decide +kernel
theorem dX7_steps_72 : decode cX7_steps 72 = .ok (.aload_n 0, 1) := by decide +kernel
theorem dX7_steps_73 : decode cX7_steps 73 = .ok (.invokevirtual 166, 3) := by decide +kernel
theorem dX7_steps_76 : decode cX7_steps 76 = .ok (.ireturn, 1) := by decide +kernel
set_option maxRecDepth 20000 in
theorem ggX7_move_X7_isPoint : GoodIn wsX7_move wsX7_isPoint := goodIn_r _ [6] (by decide +kernel) (by decide +kernel)
set_option maxRecDepth 20000 in
theorem gX7_move_X7_isPoint : GoodIn wsX7_move (va_wsS RX7 170 yX7_isPoint wsX7_isPoint) := goodIn_app (goodIn_of _ (by decide +kernel)) ggX7_move_X7_isPoint
set_option maxRecDepth 20000 in
theorem ggX7_move_X7_refuses : GoodIn wsX7_move wsX7_refuses := goodIn_r _ [10, 11, 125, 126, 127, 128, 129, 130, 131, 132, 133, 134, 135, 136, 137, 138, 139, 140, 141] (by decide +kernel) (by decide +kernel)
set_option maxRecDepth 20000 in
theorem gX7_move_X7_refuses : GoodIn wsX7_move (wsV RX7 156 RX7 yX7_refuses wsX7_refuses) := goodIn_app (goodIn_of _ (by decide +kernel)) ggX7_move_X7_refuses
set_option maxRecDepth 20000 in
theorem ggX7_move_X7_isNone : GoodIn wsX7_move wsX7_isNone := goodIn_r _ [14, 15, 16, 17, 5, 18, 19] (by decide +kernel) (by decide +kernel)
set_option maxRecDepth 20000 in
theorem gX7_move_X7_isNone : GoodIn wsX7_move (va_wsS RX7 173 yX7_isNone wsX7_isNone) := goodIn_app (goodIn_of _ (by decide +kernel)) ggX7_move_X7_isNone
set_option maxRecDepth 20000 in
theorem ggX7_move_X7_isNone4 : GoodIn wsX7_move wsX7_isNone4 := goodIn_r _ [22, 23, 24, 25, 5, 26, 27] (by decide +kernel) (by decide +kernel)
set_option maxRecDepth 20000 in
theorem gX7_move_X7_isNone4 : GoodIn wsX7_move (va_wsS RX7 176 yX7_isNone4 wsX7_isNone4) := goodIn_app (goodIn_of _ (by decide +kernel)) ggX7_move_X7_isNone4
set_option maxRecDepth 20000 in
theorem ggX7_move_X7_of : GoodIn wsX7_move wsX7_of := goodIn_r _ [30, 31, 32, 33, 34] (by decide +kernel) (by decide +kernel)
set_option maxRecDepth 20000 in
theorem gX7_move_X7_of : GoodIn wsX7_move (va_wsS RX7 191 yX7_of wsX7_of) := goodIn_app (goodIn_of _ (by decide +kernel)) ggX7_move_X7_of
set_option maxRecDepth 20000 in
theorem ggX7_move_X7_bits : GoodIn wsX7_move wsX7_bits := goodIn_r _ [37, 38, 39, 40, 41, 42, 43, 44, 34, 45, 46, 47, 48] (by decide +kernel) (by decide +kernel)
set_option maxRecDepth 20000 in
theorem gX7_move_X7_bits : GoodIn wsX7_move (va_wsS RX7 194 yX7_bits wsX7_bits) := goodIn_app (goodIn_of _ (by decide +kernel)) ggX7_move_X7_bits
set_option maxRecDepth 20000 in
theorem ggX7_move_X7_of4 : GoodIn wsX7_move wsX7_of4 := goodIn_r _ [51, 52, 53, 54, 55] (by decide +kernel) (by decide +kernel)
set_option maxRecDepth 20000 in
theorem gX7_move_X7_of4 : GoodIn wsX7_move (va_wsS RX7 197 yX7_of4 wsX7_of4) := goodIn_app (goodIn_of _ (by decide +kernel)) ggX7_move_X7_of4
set_option maxRecDepth 20000 in
theorem ggX7_move_X7_bits4 : GoodIn wsX7_move wsX7_bits4 := goodIn_r _ [58, 59, 60, 61, 62, 63, 64, 65, 55, 66, 67, 68, 69] (by decide +kernel) (by decide +kernel)
set_option maxRecDepth 20000 in
theorem gX7_move_X7_bits4 : GoodIn wsX7_move (va_wsS RX7 200 yX7_bits4 wsX7_bits4) := goodIn_app (goodIn_of _ (by decide +kernel)) ggX7_move_X7_bits4
set_option maxRecDepth 20000 in
theorem ggX7_move_X7_comes : GoodIn wsX7_move wsX7_comes := goodIn_r _ [73, 74, 1, 2, 75, 76, 77, 5, 78, 79, 80, 81, 82, 83, 84, 85, 86, 87, 16, 17, 18, 19, 88, 89, 90, 91, 92, 93, 94, 95, 96, 97, 98, 99, 100, 101, 102, 24, 25, 26, 27, 103, 104, 105, 106, 107, 108, 15, 109, 110, 111, 23, 7, 8, 9, 10, 11, 112, 113, 114, 115, 116, 117, 118, 119, 120, 121, 122, 123, 124, 125, 126, 127, 128, 129, 130, 131, 132, 133, 134, 135, 136, 137, 138, 139, 140, 141] (by decide +kernel) (by decide +kernel)
set_option maxRecDepth 20000 in
theorem gX7_move_X7_comes : GoodIn wsX7_move (wsV RX7 179 RX7 yX7_comes wsX7_comes) := goodIn_app (goodIn_of _ (by decide +kernel)) ggX7_move_X7_comes
theorem dX7_move_0 : decode cX7_move 0 = .ok (.iload_n 1, 1) := by decide +kernel
theorem dX7_move_1 : decode cX7_move 1 = .ok (.invokestatic 170, 3) := by decide +kernel
theorem dX7_move_4 : decode cX7_move 4 = .ok (.ifCond .ne 9, 3) := by decide +kernel
theorem dX7_move_7 : decode cX7_move 7 = .ok (.aload_n 0, 1) := by decide +kernel
theorem dX7_move_8 : decode cX7_move 8 = .ok (.iconst 1, 1) := by decide +kernel
theorem dX7_move_9 : decode cX7_move 9 = .ok (.invokevirtual 156, 3) := by decide +kernel
theorem dX7_move_12 : decode cX7_move 12 = .ok (.ireturn, 1) := by decide +kernel
theorem dX7_move_13 : decode cX7_move 13 = .ok (.lload_n 2, 1) := by decide +kernel
theorem dX7_move_14 : decode cX7_move 14 = .ok (.invokestatic 173, 3) := by decide +kernel
theorem dX7_move_17 : decode cX7_move 17 = .ok (.ifCond .ne 11, 3) := by decide +kernel
theorem dX7_move_20 : decode cX7_move 20 = .ok (.iload 4, 2) := by decide +kernel
theorem dX7_move_22 : decode cX7_move 22 = .ok (.invokestatic 176, 3) := by decide +kernel
theorem dX7_move_25 : decode cX7_move 25 = .ok (.ifCond .eq 9, 3) := by decide +kernel
theorem dX7_move_28 : decode cX7_move 28 = .ok (.aload_n 0, 1) := by decide +kernel
theorem dX7_move_29 : decode cX7_move 29 = .ok (.iconst 2, 1) := by decide +kernel
theorem dX7_move_30 : decode cX7_move 30 = .ok (.invokevirtual 156, 3) := by decide +kernel
theorem dX7_move_33 : decode cX7_move 33 = .ok (.ireturn, 1) := by decide +kernel
theorem dX7_move_34 : decode cX7_move 34 = .ok (.aload_n 0, 1) := by decide +kernel
theorem dX7_move_35 : decode cX7_move 35 = .ok (.iload_n 1, 1) := by decide +kernel
theorem dX7_move_36 : decode cX7_move 36 = .ok (.aload_n 0, 1) := by decide +kernel
theorem dX7_move_37 : decode cX7_move 37 = .ok (.getfield 7, 3) := by decide +kernel
theorem dX7_move_40 : decode cX7_move 40 = .ok (.iload_n 1, 1) := by decide +kernel
theorem dX7_move_41 : decode cX7_move 41 = .ok (.laload, 1) := by decide +kernel
theorem dX7_move_42 : decode cX7_move 42 = .ok (.invokestatic 191, 3) := by decide +kernel
theorem dX7_move_45 : decode cX7_move 45 = .ok (.lload_n 2, 1) := by decide +kernel
theorem dX7_move_46 : decode cX7_move 46 = .ok (.invokestatic 191, 3) := by decide +kernel
theorem dX7_move_49 : decode cX7_move 49 = .ok (.dadd, 1) := by decide +kernel
theorem dX7_move_50 : decode cX7_move 50 = .ok (.invokestatic 194, 3) := by decide +kernel
theorem dX7_move_53 : decode cX7_move 53 = .ok (.aload_n 0, 1) := by decide +kernel
theorem dX7_move_54 : decode cX7_move 54 = .ok (.getfield 13, 3) := by decide +kernel
theorem dX7_move_57 : decode cX7_move 57 = .ok (.iload_n 1, 1) := by decide +kernel
theorem dX7_move_58 : decode cX7_move 58 = .ok (.iaload, 1) := by decide +kernel
theorem dX7_move_59 : decode cX7_move 59 = .ok (.invokestatic 197, 3) := by decide +kernel
theorem dX7_move_62 : decode cX7_move 62 = .ok (.iload 4, 2) := by decide +kernel
theorem dX7_move_64 : decode cX7_move 64 = .ok (.invokestatic 197, 3) := by decide +kernel
theorem dX7_move_67 : decode cX7_move 67 = .ok (.fadd, 1) := by decide +kernel
theorem dX7_move_68 : decode cX7_move 68 = .ok (.invokestatic 200, 3) := by decide +kernel
theorem dX7_move_71 : decode cX7_move 71 = .ok (.invokevirtual 179, 3) := by decide +kernel
theorem dX7_move_74 : decode cX7_move 74 = .ok (.ireturn, 1) := by decide +kernel
set_option maxRecDepth 20000 in
theorem ggX7_snap_X7_isPoint : GoodIn wsX7_snap wsX7_isPoint := goodIn_r _ [8] (by decide +kernel) (by decide +kernel)
set_option maxRecDepth 20000 in
theorem gX7_snap_X7_isPoint : GoodIn wsX7_snap (va_wsS RX7 170 yX7_isPoint wsX7_isPoint) := goodIn_app (goodIn_of _ (by decide +kernel)) ggX7_snap_X7_isPoint
set_option maxRecDepth 20000 in
theorem ggX7_snap_X7_refuses : GoodIn wsX7_snap wsX7_refuses := goodIn_r _ [12, 13, 137, 138, 139, 140, 141, 142, 143, 144, 145, 146, 147, 148, 149, 150, 151, 152, 153] (by decide +kernel) (by decide +kernel)
set_option maxRecDepth 20000 in
theorem gX7_snap_X7_refuses : GoodIn wsX7_snap (wsV RX7 156 RX7 yX7_refuses wsX7_refuses) := goodIn_app (goodIn_of _ (by decide +kernel)) ggX7_snap_X7_refuses
set_option maxRecDepth 20000 in
theorem ggX7_snap_X7_of : GoodIn wsX7_snap wsX7_of := goodIn_r _ [16, 17, 18, 19, 20] (by decide +kernel) (by decide +kernel)
set_option maxRecDepth 20000 in
theorem gX7_snap_X7_of : GoodIn wsX7_snap (va_wsS RX7 191 yX7_of wsX7_of) := goodIn_app (goodIn_of _ (by decide +kernel)) ggX7_snap_X7_of
set_option maxRecDepth 20000 in
theorem ggX7_snap_X7_bits : GoodIn wsX7_snap wsX7_bits := goodIn_r _ [23, 24, 25, 26, 27, 28, 29, 30, 20, 31, 32, 33, 34] (by decide +kernel) (by decide +kernel)
set_option maxRecDepth 20000 in
theorem gX7_snap_X7_bits : GoodIn wsX7_snap (va_wsS RX7 194 yX7_bits wsX7_bits) := goodIn_app (goodIn_of _ (by decide +kernel)) ggX7_snap_X7_bits
set_option maxRecDepth 20000 in
theorem ggX7_snap_X7_whole : GoodIn wsX7_snap wsX7_whole := goodIn_r _ [37, 38, 39, 40, 41, 42, 43, 7, 44, 45, 46, 47, 48] (by decide +kernel) (by decide +kernel)
set_option maxRecDepth 20000 in
theorem gX7_snap_X7_whole : GoodIn wsX7_snap (va_wsS RX7 203 yX7_whole wsX7_whole) := goodIn_app (goodIn_of _ (by decide +kernel)) ggX7_snap_X7_whole
set_option maxRecDepth 20000 in
theorem ggX7_snap_X7_of4 : GoodIn wsX7_snap wsX7_of4 := goodIn_r _ [51, 52, 53, 54, 55] (by decide +kernel) (by decide +kernel)
set_option maxRecDepth 20000 in
theorem gX7_snap_X7_of4 : GoodIn wsX7_snap (va_wsS RX7 197 yX7_of4 wsX7_of4) := goodIn_app (goodIn_of _ (by decide +kernel)) ggX7_snap_X7_of4
set_option maxRecDepth 20000 in
theorem ggX7_snap_X7_bits4 : GoodIn wsX7_snap wsX7_bits4 := goodIn_r _ [58, 59, 60, 61, 62, 63, 64, 65, 55, 66, 67, 68, 69] (by decide +kernel) (by decide +kernel)
set_option maxRecDepth 20000 in
theorem gX7_snap_X7_bits4 : GoodIn wsX7_snap (va_wsS RX7 200 yX7_bits4 wsX7_bits4) := goodIn_app (goodIn_of _ (by decide +kernel)) ggX7_snap_X7_bits4
set_option maxRecDepth 20000 in
theorem ggX7_snap_X7_whole4 : GoodIn wsX7_snap wsX7_whole4 := goodIn_r _ [72, 73, 74, 75, 76, 77, 7, 78, 79] (by decide +kernel) (by decide +kernel)
set_option maxRecDepth 20000 in
theorem gX7_snap_X7_whole4 : GoodIn wsX7_snap (va_wsS RX7 207 yX7_whole4 wsX7_whole4) := goodIn_app (goodIn_of _ (by decide +kernel)) ggX7_snap_X7_whole4
set_option maxRecDepth 20000 in
theorem ggX7_snap_X7_comes : GoodIn wsX7_snap wsX7_comes := goodIn_r _ [83, 84, 1, 3, 85, 86, 87, 7, 88, 89, 90, 91, 92, 93, 94, 95, 96, 97, 42, 43, 44, 45, 98, 99, 100, 101, 102, 103, 104, 105, 106, 107, 108, 109, 110, 111, 112, 76, 77, 78, 79, 113, 114, 115, 116, 117, 118, 119, 120, 121, 122, 123, 9, 10, 11, 12, 13, 124, 125, 126, 127, 128, 129, 130, 131, 132, 133, 134, 135, 136, 137, 138, 139, 140, 141, 142, 143, 144, 145, 146, 147, 148, 149, 150, 151, 152, 153] (by decide +kernel) (by decide +kernel)
set_option maxRecDepth 20000 in
theorem gX7_snap_X7_comes : GoodIn wsX7_snap (wsV RX7 179 RX7 yX7_comes wsX7_comes) := goodIn_app (goodIn_of _ (by decide +kernel)) ggX7_snap_X7_comes
theorem dX7_snap_0 : decode cX7_snap 0 = .ok (.iload_n 1, 1) := by decide +kernel
theorem dX7_snap_1 : decode cX7_snap 1 = .ok (.invokestatic 170, 3) := by decide +kernel
theorem dX7_snap_4 : decode cX7_snap 4 = .ok (.ifCond .eq 12, 3) := by decide +kernel
theorem dX7_snap_7 : decode cX7_snap 7 = .ok (.iload_n 2, 1) := by decide +kernel
theorem dX7_snap_8 : decode cX7_snap 8 = .ok (.ifCond .lt 8, 3) := by decide +kernel
theorem dX7_snap_11 : decode cX7_snap 11 = .ok (.iload_n 2, 1) := by decide +kernel
theorem dX7_snap_12 : decode cX7_snap 12 = .ok (.iconst 3, 1) := by decide +kernel
theorem dX7_snap_13 : decode cX7_snap 13 = .ok (.if_icmp .le 9, 3) := by decide +kernel
theorem dX7_snap_16 : decode cX7_snap 16 = .ok (.aload_n 0, 1) := by decide +kernel
theorem dX7_snap_17 : decode cX7_snap 17 = .ok (.iconst 1, 1) := by decide +kernel
theorem dX7_snap_18 : decode cX7_snap 18 = .ok (.invokevirtual 156, 3) := by decide +kernel
theorem dX7_snap_21 : decode cX7_snap 21 = .ok (.ireturn, 1) := by decide +kernel
theorem dX7_snap_22 : decode cX7_snap 22 = .ok (.aload_n 0, 1) := by decide +kernel
theorem dX7_snap_23 : decode cX7_snap 23 = .ok (.getfield 7, 3) := by decide +kernel
theorem dX7_snap_26 : decode cX7_snap 26 = .ok (.iload_n 1, 1) := by decide +kernel
theorem dX7_snap_27 : decode cX7_snap 27 = .ok (.laload, 1) := by decide +kernel
theorem dX7_snap_28 : decode cX7_snap 28 = .ok (.invokestatic 191, 3) := by decide +kernel
theorem dX7_snap_31 : decode cX7_snap 31 = .ok (.aload_n 0, 1) := by decide +kernel
theorem dX7_snap_32 : decode cX7_snap 32 = .ok (.getfield 30, 3) := by decide +kernel
theorem dX7_snap_35 : decode cX7_snap 35 = .ok (.invokestatic 191, 3) := by decide +kernel
theorem dX7_snap_38 : decode cX7_snap 38 = .ok (.ddiv, 1) := by decide +kernel
theorem dX7_snap_39 : decode cX7_snap 39 = .ok (.invokestatic 194, 3) := by decide +kernel
theorem dX7_snap_42 : decode cX7_snap 42 = .ok (.iload_n 2, 1) := by decide +kernel
theorem dX7_snap_43 : decode cX7_snap 43 = .ok (.invokestatic 203, 3) := by decide +kernel
theorem dX7_snap_46 : decode cX7_snap 46 = .ok (.lstore_n 3, 1) := by decide +kernel
theorem dX7_snap_47 : decode cX7_snap 47 = .ok (.aload_n 0, 1) := by decide +kernel
theorem dX7_snap_48 : decode cX7_snap 48 = .ok (.getfield 13, 3) := by decide +kernel
theorem dX7_snap_51 : decode cX7_snap 51 = .ok (.iload_n 1, 1) := by decide +kernel
theorem dX7_snap_52 : decode cX7_snap 52 = .ok (.iaload, 1) := by decide +kernel
theorem dX7_snap_53 : decode cX7_snap 53 = .ok (.invokestatic 197, 3) := by decide +kernel
theorem dX7_snap_56 : decode cX7_snap 56 = .ok (.aload_n 0, 1) := by decide +kernel
theorem dX7_snap_57 : decode cX7_snap 57 = .ok (.getfield 43, 3) := by decide +kernel
theorem dX7_snap_60 : decode cX7_snap 60 = .ok (.invokestatic 197, 3) := by decide +kernel
theorem dX7_snap_63 : decode cX7_snap 63 = .ok (.fdiv, 1) := by decide +kernel
theorem dX7_snap_64 : decode cX7_snap 64 = .ok (.invokestatic 200, 3) := by decide +kernel
theorem dX7_snap_67 : decode cX7_snap 67 = .ok (.iload_n 2, 1) := by decide +kernel
theorem dX7_snap_68 : decode cX7_snap 68 = .ok (.invokestatic 207, 3) := by decide +kernel
theorem dX7_snap_71 : decode cX7_snap 71 = .ok (.istore 5, 2) := by decide +kernel
theorem dX7_snap_73 : decode cX7_snap 73 = .ok (.aload_n 0, 1) := by decide +kernel
theorem dX7_snap_74 : decode cX7_snap 74 = .ok (.iload_n 1, 1) := by decide +kernel
theorem dX7_snap_75 : decode cX7_snap 75 = .ok (.lload_n 3, 1) := by decide +kernel
theorem dX7_snap_76 : decode cX7_snap 76 = .ok (.invokestatic 191, 3) := by decide +kernel
theorem dX7_snap_79 : decode cX7_snap 79 = .ok (.aload_n 0, 1) := by decide +kernel
theorem dX7_snap_80 : decode cX7_snap 80 = .ok (.getfield 30, 3) := by decide +kernel
theorem dX7_snap_83 : decode cX7_snap 83 = .ok (.invokestatic 191, 3) := by decide +kernel
theorem dX7_snap_86 : decode cX7_snap 86 = .ok (.dmul, 1) := by decide +kernel
theorem dX7_snap_87 : decode cX7_snap 87 = .ok (.invokestatic 194, 3) := by decide +kernel
theorem dX7_snap_90 : decode cX7_snap 90 = .ok (.iload 5, 2) := by decide +kernel
theorem dX7_snap_92 : decode cX7_snap 92 = .ok (.invokestatic 197, 3) := by decide +kernel
theorem dX7_snap_95 : decode cX7_snap 95 = .ok (.aload_n 0, 1) := by decide +kernel
theorem dX7_snap_96 : decode cX7_snap 96 = .ok (.getfield 43, 3) := by decide +kernel
theorem dX7_snap_99 : decode cX7_snap 99 = .ok (.invokestatic 197, 3) := by decide +kernel
theorem dX7_snap_102 : decode cX7_snap 102 = .ok (.fmul, 1) := by decide +kernel
theorem dX7_snap_103 : decode cX7_snap 103 = .ok (.invokestatic 200, 3) := by decide +kernel
theorem dX7_snap_106 : decode cX7_snap 106 = .ok (.invokevirtual 179, 3) := by decide +kernel
theorem dX7_snap_109 : decode cX7_snap 109 = .ok (.ireturn, 1) := by decide +kernel
set_option maxRecDepth 20000 in
theorem ggX7_lean_X7_isPoint : GoodIn wsX7_lean wsX7_isPoint := goodIn_r _ [8] (by decide +kernel) (by decide +kernel)
set_option maxRecDepth 20000 in
theorem gX7_lean_X7_isPoint : GoodIn wsX7_lean (va_wsS RX7 170 yX7_isPoint wsX7_isPoint) := goodIn_app (goodIn_of _ (by decide +kernel)) ggX7_lean_X7_isPoint
set_option maxRecDepth 20000 in
theorem ggX7_lean_X7_refuses : GoodIn wsX7_lean wsX7_refuses := goodIn_r _ [12, 13, 79, 80, 81, 82, 83, 84, 85, 86, 87, 88, 89, 90, 91, 92, 93, 94, 95] (by decide +kernel) (by decide +kernel)
set_option maxRecDepth 20000 in
theorem gX7_lean_X7_refuses : GoodIn wsX7_lean (wsV RX7 156 RX7 yX7_refuses wsX7_refuses) := goodIn_app (goodIn_of _ (by decide +kernel)) ggX7_lean_X7_refuses
set_option maxRecDepth 20000 in
theorem ggX7_lean_X7_size : GoodIn wsX7_lean wsX7_size := goodIn_r _ [16, 17] (by decide +kernel) (by decide +kernel)
set_option maxRecDepth 20000 in
theorem gX7_lean_X7_size : GoodIn wsX7_lean (va_wsS RX7 74 yX7_size wsX7_size) := goodIn_app (goodIn_of _ (by decide +kernel)) ggX7_lean_X7_size
set_option maxRecDepth 20000 in
theorem ggX7_lean_X7_size4 : GoodIn wsX7_lean wsX7_size4 := goodIn_r _ [20, 21] (by decide +kernel) (by decide +kernel)
set_option maxRecDepth 20000 in
theorem gX7_lean_X7_size4 : GoodIn wsX7_lean (va_wsS RX7 109 yX7_size4 wsX7_size4) := goodIn_app (goodIn_of _ (by decide +kernel)) ggX7_lean_X7_size4
set_option maxRecDepth 20000 in
theorem ggX7_lean_X7_comes : GoodIn wsX7_lean wsX7_comes := goodIn_r _ [25, 26, 1, 3, 27, 28, 29, 7, 30, 31, 32, 33, 34, 35, 36, 37, 38, 39, 14, 15, 16, 17, 40, 41, 42, 43, 44, 45, 46, 47, 48, 49, 50, 51, 52, 53, 54, 18, 19, 20, 21, 55, 56, 57, 58, 59, 60, 61, 62, 63, 64, 65, 9, 10, 11, 12, 13, 66, 67, 68, 69, 70, 71, 72, 73, 74, 75, 76, 77, 78, 79, 80, 81, 82, 83, 84, 85, 86, 87, 88, 89, 90, 91, 92, 93, 94, 95] (by decide +kernel) (by decide +kernel)
set_option maxRecDepth 20000 in
theorem gX7_lean_X7_comes : GoodIn wsX7_lean (wsV RX7 179 RX7 yX7_comes wsX7_comes) := goodIn_app (goodIn_of _ (by decide +kernel)) ggX7_lean_X7_comes
theorem dX7_lean_0 : decode cX7_lean 0 = .ok (.iload_n 1, 1) := by decide +kernel
theorem dX7_lean_1 : decode cX7_lean 1 = .ok (.invokestatic 170, 3) := by decide +kernel
theorem dX7_lean_4 : decode cX7_lean 4 = .ok (.ifCond .eq 10, 3) := by decide +kernel
theorem dX7_lean_7 : decode cX7_lean 7 = .ok (.iload_n 2, 1) := by decide +kernel
theorem dX7_lean_8 : decode cX7_lean 8 = .ok (.invokestatic 170, 3) := by decide +kernel
theorem dX7_lean_11 : decode cX7_lean 11 = .ok (.ifCond .ne 9, 3) := by decide +kernel
theorem dX7_lean_14 : decode cX7_lean 14 = .ok (.aload_n 0, 1) := by decide +kernel
theorem dX7_lean_15 : decode cX7_lean 15 = .ok (.iconst 1, 1) := by decide +kernel
theorem dX7_lean_16 : decode cX7_lean 16 = .ok (.invokevirtual 156, 3) := by decide +kernel
theorem dX7_lean_19 : decode cX7_lean 19 = .ok (.ireturn, 1) := by decide +kernel
theorem dX7_lean_20 : decode cX7_lean 20 = .ok (.aload_n 0, 1) := by decide +kernel
theorem dX7_lean_21 : decode cX7_lean 21 = .ok (.iload_n 1, 1) := by decide +kernel
theorem dX7_lean_22 : decode cX7_lean 22 = .ok (.aload_n 0, 1) := by decide +kernel
theorem dX7_lean_23 : decode cX7_lean 23 = .ok (.getfield 7, 3) := by decide +kernel
theorem dX7_lean_26 : decode cX7_lean 26 = .ok (.iload_n 1, 1) := by decide +kernel
theorem dX7_lean_27 : decode cX7_lean 27 = .ok (.laload, 1) := by decide +kernel
theorem dX7_lean_28 : decode cX7_lean 28 = .ok (.invokestatic 74, 3) := by decide +kernel
theorem dX7_lean_31 : decode cX7_lean 31 = .ok (.aload_n 0, 1) := by decide +kernel
theorem dX7_lean_32 : decode cX7_lean 32 = .ok (.getfield 7, 3) := by decide +kernel
theorem dX7_lean_35 : decode cX7_lean 35 = .ok (.iload_n 2, 1) := by decide +kernel
theorem dX7_lean_36 : decode cX7_lean 36 = .ok (.laload, 1) := by decide +kernel
theorem dX7_lean_37 : decode cX7_lean 37 = .ok (.ldc2_w 83, 3) := by decide +kernel
theorem dX7_lean_40 : decode cX7_lean 40 = .ok (.land, 1) := by decide +kernel
theorem dX7_lean_41 : decode cX7_lean 41 = .ok (.lor, 1) := by decide +kernel
theorem dX7_lean_42 : decode cX7_lean 42 = .ok (.aload_n 0, 1) := by decide +kernel
theorem dX7_lean_43 : decode cX7_lean 43 = .ok (.getfield 13, 3) := by decide +kernel
theorem dX7_lean_46 : decode cX7_lean 46 = .ok (.iload_n 1, 1) := by decide +kernel
theorem dX7_lean_47 : decode cX7_lean 47 = .ok (.iaload, 1) := by decide +kernel
theorem dX7_lean_48 : decode cX7_lean 48 = .ok (.invokestatic 109, 3) := by decide +kernel
theorem dX7_lean_51 : decode cX7_lean 51 = .ok (.aload_n 0, 1) := by decide +kernel
theorem dX7_lean_52 : decode cX7_lean 52 = .ok (.getfield 13, 3) := by decide +kernel
theorem dX7_lean_55 : decode cX7_lean 55 = .ok (.iload_n 2, 1) := by decide +kernel
theorem dX7_lean_56 : decode cX7_lean 56 = .ok (.iaload, 1) := by decide +kernel
theorem dX7_lean_57 : decode cX7_lean 57 = .ok (.ldc 98, 2) := by decide +kernel
theorem dX7_lean_59 : decode cX7_lean 59 = .ok (.iand, 1) := by decide +kernel
theorem dX7_lean_60 : decode cX7_lean 60 = .ok (.ior, 1) := by decide +kernel
theorem dX7_lean_61 : decode cX7_lean 61 = .ok (.invokevirtual 179, 3) := by decide +kernel
theorem dX7_lean_64 : decode cX7_lean 64 = .ok (.ireturn, 1) := by decide +kernel
set_option maxRecDepth 20000 in
theorem ggX7_pull_X7_isPoint : GoodIn wsX7_pull wsX7_isPoint := goodIn_r _ [6] (by decide +kernel) (by decide +kernel)
set_option maxRecDepth 20000 in
theorem gX7_pull_X7_isPoint : GoodIn wsX7_pull (va_wsS RX7 170 yX7_isPoint wsX7_isPoint) := goodIn_app (goodIn_of _ (by decide +kernel)) ggX7_pull_X7_isPoint
set_option maxRecDepth 20000 in
theorem ggX7_pull_X7_refuses : GoodIn wsX7_pull wsX7_refuses := goodIn_r _ [10, 11, 52, 53, 54, 55, 56, 57, 58, 59, 60, 61, 62, 63, 64, 65, 66, 67, 68] (by decide +kernel) (by decide +kernel)
set_option maxRecDepth 20000 in
theorem gX7_pull_X7_refuses : GoodIn wsX7_pull (wsV RX7 156 RX7 yX7_refuses wsX7_refuses) := goodIn_app (goodIn_of _ (by decide +kernel)) ggX7_pull_X7_refuses
set_option maxRecDepth 20000 in
theorem ggX7_pull_X7_keeps : GoodIn wsX7_pull wsX7_keeps := goodIn_r _ [15, 16, 17, 18, 1, 19, 2, 52, 53, 54, 55, 56, 57, 58, 59, 60, 61, 62, 63, 64, 65, 66, 67, 68] (by decide +kernel) (by decide +kernel)
set_option maxRecDepth 20000 in
theorem gX7_pull_X7_keeps : GoodIn wsX7_pull (wsV RX7 159 RX7 yX7_keeps wsX7_keeps) := goodIn_app (goodIn_of _ (by decide +kernel)) ggX7_pull_X7_keeps
set_option maxRecDepth 20000 in
theorem ggX7_pull_X7_greater : GoodIn wsX7_pull wsX7_greater := goodIn_r _ [22, 23, 24, 5, 25, 26, 27, 28, 29, 30] (by decide +kernel) (by decide +kernel)
set_option maxRecDepth 20000 in
theorem gX7_pull_X7_greater : GoodIn wsX7_pull (va_wsS RX7 129 yX7_greater wsX7_greater) := goodIn_app (goodIn_of _ (by decide +kernel)) ggX7_pull_X7_greater
set_option maxRecDepth 20000 in
theorem ggX7_pull_X7_lesser : GoodIn wsX7_pull wsX7_lesser := goodIn_r _ [33, 23, 24, 5, 25, 26, 27, 28, 29, 30] (by decide +kernel) (by decide +kernel)
set_option maxRecDepth 20000 in
theorem gX7_pull_X7_lesser : GoodIn wsX7_pull (va_wsS RX7 125 yX7_lesser wsX7_lesser) := goodIn_app (goodIn_of _ (by decide +kernel)) ggX7_pull_X7_lesser
set_option maxRecDepth 20000 in
theorem ggX7_pull_X7_greater4 : GoodIn wsX7_pull wsX7_greater4 := goodIn_r _ [36, 37, 38, 5, 39, 40, 41, 42, 43] (by decide +kernel) (by decide +kernel)
end
section
set_option maxRecDepth 20000 in
theorem gX7_pull_X7_greater4 : GoodIn wsX7_pull (va_wsS RX7 136 yX7_greater4 wsX7_greater4) := goodIn_app (goodIn_of _ (by decide +kernel)) ggX7_pull_X7_greater4
set_option maxRecDepth 20000 in
theorem ggX7_pull_X7_lesser4 : GoodIn wsX7_pull wsX7_lesser4 := goodIn_r _ [46, 37, 38, 5, 39, 40, 41, 42, 43] (by decide +kernel) (by decide +kernel)
set_option maxRecDepth 20000 in
theorem gX7_pull_X7_lesser4 : GoodIn wsX7_pull (va_wsS RX7 132 yX7_lesser4 wsX7_lesser4) := goodIn_app (goodIn_of _ (by decide +kernel)) ggX7_pull_X7_lesser4
set_option maxRecDepth 20000 in
theorem ggX7_pull_X7_does : GoodIn wsX7_pull wsX7_does := goodIn_r _ [50, 51, 52, 53, 54, 55, 56, 57, 58, 59, 60, 61, 62, 63, 64, 65, 66, 67, 68] (by decide +kernel) (by decide +kernel)
set_option maxRecDepth 20000 in
theorem gX7_pull_X7_does : GoodIn wsX7_pull (wsV RX7 166 RX7 yX7_does wsX7_does) := goodIn_app (goodIn_of _ (by decide +kernel)) ggX7_pull_X7_does
theorem dX7_pull_0 : decode cX7_pull 0 = .ok (.iload_n 1, 1) := by decide +kernel
theorem dX7_pull_1 : decode cX7_pull 1 = .ok (.invokestatic 170, 3) := by decide +kernel
theorem dX7_pull_4 : decode cX7_pull 4 = .ok (.ifCond .eq 19, 3) := by decide +kernel
theorem dX7_pull_7 : decode cX7_pull 7 = .ok (.iload_n 2, 1) := by decide +kernel
theorem dX7_pull_8 : decode cX7_pull 8 = .ok (.invokestatic 170, 3) := by decide +kernel
theorem dX7_pull_11 : decode cX7_pull 11 = .ok (.ifCond .eq 12, 3) := by decide +kernel
theorem dX7_pull_14 : decode cX7_pull 14 = .ok (.iload_n 3, 1) := by decide +kernel
theorem dX7_pull_15 : decode cX7_pull 15 = .ok (.ifCond .lt 8, 3) := by decide +kernel
theorem dX7_pull_18 : decode cX7_pull 18 = .ok (.iload_n 3, 1) := by decide +kernel
theorem dX7_pull_19 : decode cX7_pull 19 = .ok (.iconst 1, 1) := by decide +kernel
theorem dX7_pull_20 : decode cX7_pull 20 = .ok (.if_icmp .le 9, 3) := by decide +kernel
theorem dX7_pull_23 : decode cX7_pull 23 = .ok (.aload_n 0, 1) := by decide +kernel
theorem dX7_pull_24 : decode cX7_pull 24 = .ok (.iconst 1, 1) := by decide +kernel
theorem dX7_pull_25 : decode cX7_pull 25 = .ok (.invokevirtual 156, 3) := by decide +kernel
theorem dX7_pull_28 : decode cX7_pull 28 = .ok (.ireturn, 1) := by decide +kernel
theorem dX7_pull_29 : decode cX7_pull 29 = .ok (.aload_n 0, 1) := by decide +kernel
theorem dX7_pull_30 : decode cX7_pull 30 = .ok (.iload_n 1, 1) := by decide +kernel
theorem dX7_pull_31 : decode cX7_pull 31 = .ok (.invokevirtual 159, 3) := by decide +kernel
theorem dX7_pull_34 : decode cX7_pull 34 = .ok (.aload_n 0, 1) := by decide +kernel
theorem dX7_pull_35 : decode cX7_pull 35 = .ok (.getfield 7, 3) := by decide +kernel
theorem dX7_pull_38 : decode cX7_pull 38 = .ok (.iload_n 1, 1) := by decide +kernel
theorem dX7_pull_39 : decode cX7_pull 39 = .ok (.iload_n 3, 1) := by decide +kernel
theorem dX7_pull_40 : decode cX7_pull 40 = .ok (.ifCond .ne 21, 3) := by decide +kernel
theorem dX7_pull_43 : decode cX7_pull 43 = .ok (.aload_n 0, 1) := by decide +kernel
theorem dX7_pull_44 : decode cX7_pull 44 = .ok (.getfield 7, 3) := by decide +kernel
theorem dX7_pull_47 : decode cX7_pull 47 = .ok (.iload_n 1, 1) := by decide +kernel
theorem dX7_pull_48 : decode cX7_pull 48 = .ok (.laload, 1) := by decide +kernel
theorem dX7_pull_49 : decode cX7_pull 49 = .ok (.aload_n 0, 1) := by decide +kernel
theorem dX7_pull_50 : decode cX7_pull 50 = .ok (.getfield 7, 3) := by decide +kernel
theorem dX7_pull_53 : decode cX7_pull 53 = .ok (.iload_n 2, 1) := by decide +kernel
theorem dX7_pull_54 : decode cX7_pull 54 = .ok (.laload, 1) := by decide +kernel
theorem dX7_pull_55 : decode cX7_pull 55 = .ok (.invokestatic 129, 3) := by decide +kernel
theorem dX7_pull_58 : decode cX7_pull 58 = .ok (.goto 18, 3) := by decide +kernel
theorem dX7_pull_61 : decode cX7_pull 61 = .ok (.aload_n 0, 1) := by decide +kernel
theorem dX7_pull_62 : decode cX7_pull 62 = .ok (.getfield 7, 3) := by decide +kernel
theorem dX7_pull_65 : decode cX7_pull 65 = .ok (.iload_n 1, 1) := by decide +kernel
theorem dX7_pull_66 : decode cX7_pull 66 = .ok (.laload, 1) := by decide +kernel
theorem dX7_pull_67 : decode cX7_pull 67 = .ok (.aload_n 0, 1) := by decide +kernel
theorem dX7_pull_68 : decode cX7_pull 68 = .ok (.getfield 7, 3) := by decide +kernel
theorem dX7_pull_71 : decode cX7_pull 71 = .ok (.iload_n 2, 1) := by decide +kernel
theorem dX7_pull_72 : decode cX7_pull 72 = .ok (.laload, 1) := by decide +kernel
theorem dX7_pull_73 : decode cX7_pull 73 = .ok (.invokestatic 125, 3) := by decide +kernel
theorem dX7_pull_76 : decode cX7_pull 76 = .ok (.lastore, 1) := by decide +kernel
theorem dX7_pull_77 : decode cX7_pull 77 = .ok (.aload_n 0, 1) := by decide +kernel
theorem dX7_pull_78 : decode cX7_pull 78 = .ok (.getfield 13, 3) := by decide +kernel
theorem dX7_pull_81 : decode cX7_pull 81 = .ok (.iload_n 1, 1) := by decide +kernel
theorem dX7_pull_82 : decode cX7_pull 82 = .ok (.iload_n 3, 1) := by decide +kernel
theorem dX7_pull_83 : decode cX7_pull 83 = .ok (.ifCond .ne 21, 3) := by decide +kernel
theorem dX7_pull_86 : decode cX7_pull 86 = .ok (.aload_n 0, 1) := by decide +kernel
theorem dX7_pull_87 : decode cX7_pull 87 = .ok (.getfield 13, 3) := by decide +kernel
theorem dX7_pull_90 : decode cX7_pull 90 = .ok (.iload_n 1, 1) := by decide +kernel
theorem dX7_pull_91 : decode cX7_pull 91 = .ok (.iaload, 1) := by decide +kernel
theorem dX7_pull_92 : decode cX7_pull 92 = .ok (.aload_n 0, 1) := by decide +kernel
theorem dX7_pull_93 : decode cX7_pull 93 = .ok (.getfield 13, 3) := by decide +kernel
theorem dX7_pull_96 : decode cX7_pull 96 = .ok (.iload_n 2, 1) := by decide +kernel
theorem dX7_pull_97 : decode cX7_pull 97 = .ok (.iaload, 1) := by decide +kernel
theorem dX7_pull_98 : decode cX7_pull 98 = .ok (.invokestatic 136, 3) := by decide +kernel
theorem dX7_pull_101 : decode cX7_pull 101 = .ok (.goto 18, 3) := by decide +kernel
theorem dX7_pull_104 : decode cX7_pull 104 = .ok (.aload_n 0, 1) := by decide +kernel
theorem dX7_pull_105 : decode cX7_pull 105 = .ok (.getfield 13, 3) := by decide +kernel
theorem dX7_pull_108 : decode cX7_pull 108 = .ok (.iload_n 1, 1) := by decide +kernel
theorem dX7_pull_109 : decode cX7_pull 109 = .ok (.iaload, 1) := by decide +kernel
theorem dX7_pull_110 : decode cX7_pull 110 = .ok (.aload_n 0, 1) := by decide +kernel
theorem dX7_pull_111 : decode cX7_pull 111 = .ok (.getfield 13, 3) := by decide +kernel
theorem dX7_pull_114 : decode cX7_pull 114 = .ok (.iload_n 2, 1) := by decide +kernel
theorem dX7_pull_115 : decode cX7_pull 115 = .ok (.iaload, 1) := by decide +kernel
theorem dX7_pull_116 : decode cX7_pull 116 = .ok (.invokestatic 132, 3) := by decide +kernel
theorem dX7_pull_119 : decode cX7_pull 119 = .ok (.iastore, 1) := by decide +kernel
theorem dX7_pull_120 : decode cX7_pull 120 = .ok (.aload_n 0, 1) := by decide +kernel
theorem dX7_pull_121 : decode cX7_pull 121 = .ok (.invokevirtual 166, 3) := by decide +kernel
theorem dX7_pull_124 : decode cX7_pull 124 = .ok (.ireturn, 1) := by decide +kernel
set_option maxRecDepth 20000 in
theorem ggX7_swing_X7_isPoint : GoodIn wsX7_swing wsX7_isPoint := goodIn_r _ [7] (by decide +kernel) (by decide +kernel)
set_option maxRecDepth 20000 in
theorem gX7_swing_X7_isPoint : GoodIn wsX7_swing (va_wsS RX7 170 yX7_isPoint wsX7_isPoint) := goodIn_app (goodIn_of _ (by decide +kernel)) ggX7_swing_X7_isPoint
set_option maxRecDepth 20000 in
theorem ggX7_swing_X7_refuses : GoodIn wsX7_swing wsX7_refuses := goodIn_r _ [11, 12, 102, 103, 104, 105, 106, 107, 108, 109, 110, 111, 112, 113, 114, 115, 116, 117, 118] (by decide +kernel) (by decide +kernel)
set_option maxRecDepth 20000 in
theorem gX7_swing_X7_refuses : GoodIn wsX7_swing (wsV RX7 156 RX7 yX7_refuses wsX7_refuses) := goodIn_app (goodIn_of _ (by decide +kernel)) ggX7_swing_X7_refuses
set_option maxRecDepth 20000 in
theorem ggX7_swing_X7_isNone : GoodIn wsX7_swing wsX7_isNone := goodIn_r _ [15, 16, 17, 18, 6, 19, 20] (by decide +kernel) (by decide +kernel)
set_option maxRecDepth 20000 in
theorem gX7_swing_X7_isNone : GoodIn wsX7_swing (va_wsS RX7 173 yX7_isNone wsX7_isNone) := goodIn_app (goodIn_of _ (by decide +kernel)) ggX7_swing_X7_isNone
set_option maxRecDepth 20000 in
theorem ggX7_swing_X7_isInfinite : GoodIn wsX7_swing wsX7_isInfinite := goodIn_r _ [23, 16, 17, 18, 6, 19, 20] (by decide +kernel) (by decide +kernel)
set_option maxRecDepth 20000 in
theorem gX7_swing_X7_isInfinite : GoodIn wsX7_swing (va_wsS RX7 148 yX7_isInfinite wsX7_isInfinite) := goodIn_app (goodIn_of _ (by decide +kernel)) ggX7_swing_X7_isInfinite
set_option maxRecDepth 20000 in
theorem ggX7_swing_X7_of : GoodIn wsX7_swing wsX7_of := goodIn_r _ [26, 27, 28, 29, 30] (by decide +kernel) (by decide +kernel)
set_option maxRecDepth 20000 in
theorem gX7_swing_X7_of : GoodIn wsX7_swing (va_wsS RX7 191 yX7_of wsX7_of) := goodIn_app (goodIn_of _ (by decide +kernel)) ggX7_swing_X7_of
set_option maxRecDepth 20000 in
theorem ggX7_swing_X7_bits : GoodIn wsX7_swing wsX7_bits := goodIn_r _ [33, 34, 35, 36, 37, 38, 39, 40, 30, 41, 42, 43, 44] (by decide +kernel) (by decide +kernel)
set_option maxRecDepth 20000 in
theorem gX7_swing_X7_bits : GoodIn wsX7_swing (va_wsS RX7 194 yX7_bits wsX7_bits) := goodIn_app (goodIn_of _ (by decide +kernel)) ggX7_swing_X7_bits
set_option maxRecDepth 20000 in
theorem ggX7_swing_X7_comes : GoodIn wsX7_swing wsX7_comes := goodIn_r _ [48, 49, 1, 2, 50, 51, 52, 6, 53, 54, 55, 56, 57, 58, 59, 60, 61, 62, 17, 18, 19, 20, 63, 64, 65, 66, 67, 68, 69, 70, 71, 72, 73, 74, 75, 76, 77, 78, 79, 80, 81, 82, 83, 84, 21, 22, 23, 16, 85, 86, 87, 88, 8, 9, 10, 11, 12, 89, 90, 91, 92, 93, 94, 95, 96, 97, 98, 99, 100, 101, 102, 103, 104, 105, 106, 107, 108, 109, 110, 111, 112, 113, 114, 115, 116, 117, 118] (by decide +kernel) (by decide +kernel)
set_option maxRecDepth 20000 in
theorem gX7_swing_X7_comes : GoodIn wsX7_swing (wsV RX7 179 RX7 yX7_comes wsX7_comes) := goodIn_app (goodIn_of _ (by decide +kernel)) ggX7_swing_X7_comes
theorem dX7_swing_0 : decode cX7_swing 0 = .ok (.iload_n 1, 1) := by decide +kernel
theorem dX7_swing_1 : decode cX7_swing 1 = .ok (.invokestatic 170, 3) := by decide +kernel
theorem dX7_swing_4 : decode cX7_swing 4 = .ok (.ifCond .ne 9, 3) := by decide +kernel
theorem dX7_swing_7 : decode cX7_swing 7 = .ok (.aload_n 0, 1) := by decide +kernel
theorem dX7_swing_8 : decode cX7_swing 8 = .ok (.iconst 1, 1) := by decide +kernel
theorem dX7_swing_9 : decode cX7_swing 9 = .ok (.invokevirtual 156, 3) := by decide +kernel
theorem dX7_swing_12 : decode cX7_swing 12 = .ok (.ireturn, 1) := by decide +kernel
theorem dX7_swing_13 : decode cX7_swing 13 = .ok (.lload_n 2, 1) := by decide +kernel
theorem dX7_swing_14 : decode cX7_swing 14 = .ok (.invokestatic 173, 3) := by decide +kernel
theorem dX7_swing_17 : decode cX7_swing 17 = .ok (.ifCond .eq 9, 3) := by decide +kernel
theorem dX7_swing_20 : decode cX7_swing 20 = .ok (.aload_n 0, 1) := by decide +kernel
theorem dX7_swing_21 : decode cX7_swing 21 = .ok (.iconst 2, 1) := by decide +kernel
theorem dX7_swing_22 : decode cX7_swing 22 = .ok (.invokevirtual 156, 3) := by decide +kernel
theorem dX7_swing_25 : decode cX7_swing 25 = .ok (.ireturn, 1) := by decide +kernel
theorem dX7_swing_26 : decode cX7_swing 26 = .ok (.lload_n 2, 1) := by decide +kernel
theorem dX7_swing_27 : decode cX7_swing 27 = .ok (.invokestatic 148, 3) := by decide +kernel
theorem dX7_swing_30 : decode cX7_swing 30 = .ok (.ifCond .eq 9, 3) := by decide +kernel
theorem dX7_swing_33 : decode cX7_swing 33 = .ok (.aload_n 0, 1) := by decide +kernel
theorem dX7_swing_34 : decode cX7_swing 34 = .ok (.iconst 3, 1) := by decide +kernel
theorem dX7_swing_35 : decode cX7_swing 35 = .ok (.invokevirtual 156, 3) := by decide +kernel
theorem dX7_swing_38 : decode cX7_swing 38 = .ok (.ireturn, 1) := by decide +kernel
theorem dX7_swing_39 : decode cX7_swing 39 = .ok (.aload_n 0, 1) := by decide +kernel
theorem dX7_swing_40 : decode cX7_swing 40 = .ok (.iload_n 1, 1) := by decide +kernel
theorem dX7_swing_41 : decode cX7_swing 41 = .ok (.lload_n 2, 1) := by decide +kernel
theorem dX7_swing_42 : decode cX7_swing 42 = .ok (.invokestatic 191, 3) := by decide +kernel
theorem dX7_swing_45 : decode cX7_swing 45 = .ok (.lload_n 2, 1) := by decide +kernel
theorem dX7_swing_46 : decode cX7_swing 46 = .ok (.invokestatic 191, 3) := by decide +kernel
theorem dX7_swing_49 : decode cX7_swing 49 = .ok (.dadd, 1) := by decide +kernel
theorem dX7_swing_50 : decode cX7_swing 50 = .ok (.aload_n 0, 1) := by decide +kernel
theorem dX7_swing_51 : decode cX7_swing 51 = .ok (.getfield 7, 3) := by decide +kernel
theorem dX7_swing_54 : decode cX7_swing 54 = .ok (.iload_n 1, 1) := by decide +kernel
theorem dX7_swing_55 : decode cX7_swing 55 = .ok (.laload, 1) := by decide +kernel
theorem dX7_swing_56 : decode cX7_swing 56 = .ok (.invokestatic 191, 3) := by decide +kernel
theorem dX7_swing_59 : decode cX7_swing 59 = .ok (.dsub, 1) := by decide +kernel
theorem dX7_swing_60 : decode cX7_swing 60 = .ok (.invokestatic 194, 3) := by decide +kernel
theorem dX7_swing_63 : decode cX7_swing 63 = .ok (.aload_n 0, 1) := by decide +kernel
theorem dX7_swing_64 : decode cX7_swing 64 = .ok (.getfield 13, 3) := by decide +kernel
theorem dX7_swing_67 : decode cX7_swing 67 = .ok (.iload_n 1, 1) := by decide +kernel
theorem dX7_swing_68 : decode cX7_swing 68 = .ok (.iaload, 1) := by decide +kernel
theorem dX7_swing_69 : decode cX7_swing 69 = .ok (.ldc 98, 2) := by decide +kernel
theorem dX7_swing_71 : decode cX7_swing 71 = .ok (.ixor, 1) := by decide +kernel
theorem dX7_swing_72 : decode cX7_swing 72 = .ok (.invokevirtual 179, 3) := by decide +kernel
theorem dX7_swing_75 : decode cX7_swing 75 = .ok (.ireturn, 1) := by decide +kernel
set_option maxRecDepth 20000 in
theorem ggX7_guide_X7_refuses : GoodIn wsX7_guide wsX7_refuses := goodIn_r _ [7, 8, 25, 26, 27, 28, 29, 30, 31, 32, 33, 34, 35, 36, 37, 38, 39, 40, 41] (by decide +kernel) (by decide +kernel)
set_option maxRecDepth 20000 in
theorem gX7_guide_X7_refuses : GoodIn wsX7_guide (wsV RX7 156 RX7 yX7_refuses wsX7_refuses) := goodIn_app (goodIn_of _ (by decide +kernel)) ggX7_guide_X7_refuses
set_option maxRecDepth 20000 in
theorem ggX7_guide_X7_isNone : GoodIn wsX7_guide wsX7_isNone := goodIn_r _ [11, 12, 13, 14, 6, 15, 16] (by decide +kernel) (by decide +kernel)
set_option maxRecDepth 20000 in
theorem gX7_guide_X7_isNone : GoodIn wsX7_guide (va_wsS RX7 173 yX7_isNone wsX7_isNone) := goodIn_app (goodIn_of _ (by decide +kernel)) ggX7_guide_X7_isNone
set_option maxRecDepth 20000 in
theorem ggX7_guide_X7_isInfinite : GoodIn wsX7_guide wsX7_isInfinite := goodIn_r _ [19, 12, 13, 14, 6, 15, 16] (by decide +kernel) (by decide +kernel)
set_option maxRecDepth 20000 in
theorem gX7_guide_X7_isInfinite : GoodIn wsX7_guide (va_wsS RX7 148 yX7_isInfinite wsX7_isInfinite) := goodIn_app (goodIn_of _ (by decide +kernel)) ggX7_guide_X7_isInfinite
set_option maxRecDepth 20000 in
theorem ggX7_guide_X7_does : GoodIn wsX7_guide wsX7_does := goodIn_r _ [23, 24, 25, 26, 27, 28, 29, 30, 31, 32, 33, 34, 35, 36, 37, 38, 39, 40, 41] (by decide +kernel) (by decide +kernel)
set_option maxRecDepth 20000 in
theorem gX7_guide_X7_does : GoodIn wsX7_guide (wsV RX7 166 RX7 yX7_does wsX7_does) := goodIn_app (goodIn_of _ (by decide +kernel)) ggX7_guide_X7_does
theorem dX7_guide_0 : decode cX7_guide 0 = .ok (.iload_n 1, 1) := by decide +kernel
theorem dX7_guide_1 : decode cX7_guide 1 = .ok (.ifCond .lt 8, 3) := by decide +kernel
theorem dX7_guide_4 : decode cX7_guide 4 = .ok (.iload_n 1, 1) := by decide +kernel
theorem dX7_guide_5 : decode cX7_guide 5 = .ok (.iconst 4, 1) := by decide +kernel
theorem dX7_guide_6 : decode cX7_guide 6 = .ok (.if_icmp .lt 9, 3) := by decide +kernel
theorem dX7_guide_9 : decode cX7_guide 9 = .ok (.aload_n 0, 1) := by decide +kernel
theorem dX7_guide_10 : decode cX7_guide 10 = .ok (.iconst 1, 1) := by decide +kernel
theorem dX7_guide_11 : decode cX7_guide 11 = .ok (.invokevirtual 156, 3) := by decide +kernel
theorem dX7_guide_14 : decode cX7_guide 14 = .ok (.ireturn, 1) := by decide +kernel
theorem dX7_guide_15 : decode cX7_guide 15 = .ok (.lload_n 2, 1) := by decide +kernel
theorem dX7_guide_16 : decode cX7_guide 16 = .ok (.invokestatic 173, 3) := by decide +kernel
theorem dX7_guide_19 : decode cX7_guide 19 = .ok (.ifCond .eq 9, 3) := by decide +kernel
theorem dX7_guide_22 : decode cX7_guide 22 = .ok (.aload_n 0, 1) := by decide +kernel
theorem dX7_guide_23 : decode cX7_guide 23 = .ok (.iconst 2, 1) := by decide +kernel
theorem dX7_guide_24 : decode cX7_guide 24 = .ok (.invokevirtual 156, 3) := by decide +kernel
theorem dX7_guide_27 : decode cX7_guide 27 = .ok (.ireturn, 1) := by decide +kernel
theorem dX7_guide_28 : decode cX7_guide 28 = .ok (.aload_n 0, 1) := by decide +kernel
theorem dX7_guide_29 : decode cX7_guide 29 = .ok (.getfield 49, 3) := by decide +kernel
theorem dX7_guide_32 : decode cX7_guide 32 = .ok (.iload_n 1, 1) := by decide +kernel
theorem dX7_guide_33 : decode cX7_guide 33 = .ok (.lload_n 2, 1) := by decide +kernel
theorem dX7_guide_34 : decode cX7_guide 34 = .ok (.invokestatic 148, 3) := by decide +kernel
theorem dX7_guide_37 : decode cX7_guide 37 = .ok (.ifCond .ne 7, 3) := by decide +kernel
theorem dX7_guide_40 : decode cX7_guide 40 = .ok (.iconst 1, 1) := by decide +kernel
theorem dX7_guide_41 : decode cX7_guide 41 = .ok (.goto 4, 3) := by decide +kernel
theorem dX7_guide_44 : decode cX7_guide 44 = .ok (.iconst 0, 1) := by decide +kernel
theorem dX7_guide_45 : decode cX7_guide 45 = .ok (.bastore, 1) := by decide +kernel
theorem dX7_guide_46 : decode cX7_guide 46 = .ok (.aload_n 0, 1) := by decide +kernel
theorem dX7_guide_47 : decode cX7_guide 47 = .ok (.getfield 46, 3) := by decide +kernel
theorem dX7_guide_50 : decode cX7_guide 50 = .ok (.iload_n 1, 1) := by decide +kernel
theorem dX7_guide_51 : decode cX7_guide 51 = .ok (.lload_n 2, 1) := by decide +kernel
theorem dX7_guide_52 : decode cX7_guide 52 = .ok (.lastore, 1) := by decide +kernel
theorem dX7_guide_53 : decode cX7_guide 53 = .ok (.aload_n 0, 1) := by decide +kernel
theorem dX7_guide_54 : decode cX7_guide 54 = .ok (.invokevirtual 166, 3) := by decide +kernel
theorem dX7_guide_57 : decode cX7_guide 57 = .ok (.ireturn, 1) := by decide +kernel
set_option maxRecDepth 20000 in
theorem ggX7_stick_X7_isPoint : GoodIn wsX7_stick wsX7_isPoint := goodIn_r _ [8] (by decide +kernel) (by decide +kernel)
set_option maxRecDepth 20000 in
theorem gX7_stick_X7_isPoint : GoodIn wsX7_stick (va_wsS RX7 170 yX7_isPoint wsX7_isPoint) := goodIn_app (goodIn_of _ (by decide +kernel)) ggX7_stick_X7_isPoint
set_option maxRecDepth 20000 in
theorem ggX7_stick_X7_refuses : GoodIn wsX7_stick wsX7_refuses := goodIn_r _ [12, 13, 106, 107, 108, 109, 110, 111, 112, 113, 114, 115, 116, 117, 118, 119, 120, 121, 122] (by decide +kernel) (by decide +kernel)
set_option maxRecDepth 20000 in
theorem gX7_stick_X7_refuses : GoodIn wsX7_stick (wsV RX7 156 RX7 yX7_refuses wsX7_refuses) := goodIn_app (goodIn_of _ (by decide +kernel)) ggX7_stick_X7_refuses
set_option maxRecDepth 20000 in
theorem ggX7_stick_X7_isNone : GoodIn wsX7_stick wsX7_isNone := goodIn_r _ [16, 17, 18, 19, 7, 20, 21] (by decide +kernel) (by decide +kernel)
set_option maxRecDepth 20000 in
theorem gX7_stick_X7_isNone : GoodIn wsX7_stick (va_wsS RX7 173 yX7_isNone wsX7_isNone) := goodIn_app (goodIn_of _ (by decide +kernel)) ggX7_stick_X7_isNone
set_option maxRecDepth 20000 in
theorem ggX7_stick_X7_isBelow : GoodIn wsX7_stick wsX7_isBelow := goodIn_r _ [24, 25, 26, 7, 27, 28, 18, 19, 20, 21] (by decide +kernel) (by decide +kernel)
set_option maxRecDepth 20000 in
theorem gX7_stick_X7_isBelow : GoodIn wsX7_stick (va_wsS RX7 183 yX7_isBelow wsX7_isBelow) := goodIn_app (goodIn_of _ (by decide +kernel)) ggX7_stick_X7_isBelow
set_option maxRecDepth 20000 in
theorem ggX7_stick_X7_of : GoodIn wsX7_stick wsX7_of := goodIn_r _ [31, 32, 33, 34, 35] (by decide +kernel) (by decide +kernel)
set_option maxRecDepth 20000 in
theorem gX7_stick_X7_of : GoodIn wsX7_stick (va_wsS RX7 191 yX7_of wsX7_of) := goodIn_app (goodIn_of _ (by decide +kernel)) ggX7_stick_X7_of
set_option maxRecDepth 20000 in
theorem ggX7_stick_X7_bits : GoodIn wsX7_stick wsX7_bits := goodIn_r _ [38, 39, 40, 41, 42, 43, 44, 45, 35, 46, 47, 48, 49] (by decide +kernel) (by decide +kernel)
set_option maxRecDepth 20000 in
theorem gX7_stick_X7_bits : GoodIn wsX7_stick (va_wsS RX7 194 yX7_bits wsX7_bits) := goodIn_app (goodIn_of _ (by decide +kernel)) ggX7_stick_X7_bits
set_option maxRecDepth 20000 in
theorem ggX7_stick_X7_size : GoodIn wsX7_stick wsX7_size := goodIn_r _ [20, 21] (by decide +kernel) (by decide +kernel)
set_option maxRecDepth 20000 in
theorem gX7_stick_X7_size : GoodIn wsX7_stick (va_wsS RX7 74 yX7_size wsX7_size) := goodIn_app (goodIn_of _ (by decide +kernel)) ggX7_stick_X7_size
set_option maxRecDepth 20000 in
theorem ggX7_stick_X7_comes : GoodIn wsX7_stick wsX7_comes := goodIn_r _ [53, 54, 2, 4, 55, 56, 57, 7, 58, 59, 60, 61, 62, 63, 25, 26, 27, 28, 18, 19, 20, 21, 64, 65, 66, 67, 68, 69, 70, 71, 72, 73, 74, 75, 76, 77, 78, 79, 80, 81, 82, 83, 84, 85, 86, 87, 88, 17, 89, 90, 91, 92, 9, 10, 11, 12, 13, 93, 94, 95, 96, 97, 98, 99, 100, 101, 102, 103, 104, 105, 106, 107, 108, 109, 110, 111, 112, 113, 114, 115, 116, 117, 118, 119, 120, 121, 122] (by decide +kernel) (by decide +kernel)
set_option maxRecDepth 20000 in
theorem gX7_stick_X7_comes : GoodIn wsX7_stick (wsV RX7 179 RX7 yX7_comes wsX7_comes) := goodIn_app (goodIn_of _ (by decide +kernel)) ggX7_stick_X7_comes
theorem dX7_stick_0 : decode cX7_stick 0 = .ok (.iload_n 1, 1) := by decide +kernel
theorem dX7_stick_1 : decode cX7_stick 1 = .ok (.invokestatic 170, 3) := by decide +kernel
theorem dX7_stick_4 : decode cX7_stick 4 = .ok (.ifCond .ne 9, 3) := by decide +kernel
theorem dX7_stick_7 : decode cX7_stick 7 = .ok (.aload_n 0, 1) := by decide +kernel
theorem dX7_stick_8 : decode cX7_stick 8 = .ok (.iconst 1, 1) := by decide +kernel
theorem dX7_stick_9 : decode cX7_stick 9 = .ok (.invokevirtual 156, 3) := by decide +kernel
theorem dX7_stick_12 : decode cX7_stick 12 = .ok (.ireturn, 1) := by decide +kernel
theorem dX7_stick_13 : decode cX7_stick 13 = .ok (.lload_n 2, 1) := by decide +kernel
theorem dX7_stick_14 : decode cX7_stick 14 = .ok (.invokestatic 173, 3) := by decide +kernel
theorem dX7_stick_17 : decode cX7_stick 17 = .ok (.ifCond .eq 9, 3) := by decide +kernel
theorem dX7_stick_20 : decode cX7_stick 20 = .ok (.aload_n 0, 1) := by decide +kernel
theorem dX7_stick_21 : decode cX7_stick 21 = .ok (.iconst 2, 1) := by decide +kernel
theorem dX7_stick_22 : decode cX7_stick 22 = .ok (.invokevirtual 156, 3) := by decide +kernel
theorem dX7_stick_25 : decode cX7_stick 25 = .ok (.ireturn, 1) := by decide +kernel
theorem dX7_stick_26 : decode cX7_stick 26 = .ok (.lload_n 2, 1) := by decide +kernel
theorem dX7_stick_27 : decode cX7_stick 27 = .ok (.lconst 0, 1) := by decide +kernel
theorem dX7_stick_28 : decode cX7_stick 28 = .ok (.invokestatic 183, 3) := by decide +kernel
theorem dX7_stick_31 : decode cX7_stick 31 = .ok (.ifCond .eq 9, 3) := by decide +kernel
theorem dX7_stick_34 : decode cX7_stick 34 = .ok (.aload_n 0, 1) := by decide +kernel
theorem dX7_stick_35 : decode cX7_stick 35 = .ok (.iconst 4, 1) := by decide +kernel
theorem dX7_stick_36 : decode cX7_stick 36 = .ok (.invokevirtual 156, 3) := by decide +kernel
theorem dX7_stick_39 : decode cX7_stick 39 = .ok (.ireturn, 1) := by decide +kernel
theorem dX7_stick_40 : decode cX7_stick 40 = .ok (.iconst (-1), 1) := by decide +kernel
theorem dX7_stick_41 : decode cX7_stick 41 = .ok (.istore 4, 2) := by decide +kernel
theorem dX7_stick_43 : decode cX7_stick 43 = .ok (.lconst 0, 1) := by decide +kernel
theorem dX7_stick_44 : decode cX7_stick 44 = .ok (.lstore 5, 2) := by decide +kernel
theorem dX7_stick_46 : decode cX7_stick 46 = .ok (.iconst 0, 1) := by decide +kernel
theorem dX7_stick_47 : decode cX7_stick 47 = .ok (.istore 7, 2) := by decide +kernel
theorem dX7_stick_49 : decode cX7_stick 49 = .ok (.iload 7, 2) := by decide +kernel
theorem dX7_stick_51 : decode cX7_stick 51 = .ok (.iconst 4, 1) := by decide +kernel
theorem dX7_stick_52 : decode cX7_stick 52 = .ok (.if_icmp .ge 75, 3) := by decide +kernel
theorem dX7_stick_55 : decode cX7_stick 55 = .ok (.aload_n 0, 1) := by decide +kernel
theorem dX7_stick_56 : decode cX7_stick 56 = .ok (.getfield 49, 3) := by decide +kernel
theorem dX7_stick_59 : decode cX7_stick 59 = .ok (.iload 7, 2) := by decide +kernel
theorem dX7_stick_61 : decode cX7_stick 61 = .ok (.baload, 1) := by decide +kernel
theorem dX7_stick_62 : decode cX7_stick 62 = .ok (.ifCond .ne 6, 3) := by decide +kernel
theorem dX7_stick_65 : decode cX7_stick 65 = .ok (.goto 56, 3) := by decide +kernel
theorem dX7_stick_68 : decode cX7_stick 68 = .ok (.aload_n 0, 1) := by decide +kernel
theorem dX7_stick_69 : decode cX7_stick 69 = .ok (.getfield 7, 3) := by decide +kernel
theorem dX7_stick_72 : decode cX7_stick 72 = .ok (.iload_n 1, 1) := by decide +kernel
theorem dX7_stick_73 : decode cX7_stick 73 = .ok (.laload, 1) := by decide +kernel
theorem dX7_stick_74 : decode cX7_stick 74 = .ok (.invokestatic 191, 3) := by decide +kernel
theorem dX7_stick_77 : decode cX7_stick 77 = .ok (.aload_n 0, 1) := by decide +kernel
theorem dX7_stick_78 : decode cX7_stick 78 = .ok (.getfield 46, 3) := by decide +kernel
theorem dX7_stick_81 : decode cX7_stick 81 = .ok (.iload 7, 2) := by decide +kernel
theorem dX7_stick_83 : decode cX7_stick 83 = .ok (.laload, 1) := by decide +kernel
theorem dX7_stick_84 : decode cX7_stick 84 = .ok (.invokestatic 191, 3) := by decide +kernel
theorem dX7_stick_87 : decode cX7_stick 87 = .ok (.dsub, 1) := by decide +kernel
theorem dX7_stick_88 : decode cX7_stick 88 = .ok (.invokestatic 194, 3) := by decide +kernel
theorem dX7_stick_91 : decode cX7_stick 91 = .ok (.invokestatic 74, 3) := by decide +kernel
theorem dX7_stick_94 : decode cX7_stick 94 = .ok (.lstore 8, 2) := by decide +kernel
theorem dX7_stick_96 : decode cX7_stick 96 = .ok (.iload 4, 2) := by decide +kernel
theorem dX7_stick_98 : decode cX7_stick 98 = .ok (.iconst (-1), 1) := by decide +kernel
theorem dX7_stick_99 : decode cX7_stick 99 = .ok (.if_icmp .eq 14, 3) := by decide +kernel
theorem dX7_stick_102 : decode cX7_stick 102 = .ok (.lload 8, 2) := by decide +kernel
theorem dX7_stick_104 : decode cX7_stick 104 = .ok (.lload 5, 2) := by decide +kernel
theorem dX7_stick_106 : decode cX7_stick 106 = .ok (.lcmp, 1) := by decide +kernel
theorem dX7_stick_107 : decode cX7_stick 107 = .ok (.ifCond .lt 6, 3) := by decide +kernel
theorem dX7_stick_110 : decode cX7_stick 110 = .ok (.goto 11, 3) := by decide +kernel
theorem dX7_stick_113 : decode cX7_stick 113 = .ok (.iload 7, 2) := by decide +kernel
theorem dX7_stick_115 : decode cX7_stick 115 = .ok (.istore 4, 2) := by decide +kernel
theorem dX7_stick_117 : decode cX7_stick 117 = .ok (.lload 8, 2) := by decide +kernel
theorem dX7_stick_119 : decode cX7_stick 119 = .ok (.lstore 5, 2) := by decide +kernel
theorem dX7_stick_121 : decode cX7_stick 121 = .ok (.iinc 7 1, 3) := by decide +kernel
theorem dX7_stick_124 : decode cX7_stick 124 = .ok (.goto (-75), 3) := by decide +kernel
theorem dX7_stick_127 : decode cX7_stick 127 = .ok (.iload 4, 2) := by decide +kernel
theorem dX7_stick_129 : decode cX7_stick 129 = .ok (.iconst (-1), 1) := by decide +kernel
theorem dX7_stick_130 : decode cX7_stick 130 = .ok (.if_icmp .eq 13, 3) := by decide +kernel
theorem dX7_stick_133 : decode cX7_stick 133 = .ok (.lload 5, 2) := by decide +kernel
theorem dX7_stick_135 : decode cX7_stick 135 = .ok (.lload_n 2, 1) := by decide +kernel
theorem dX7_stick_136 : decode cX7_stick 136 = .ok (.invokestatic 74, 3) := by decide +kernel
theorem dX7_stick_139 : decode cX7_stick 139 = .ok (.lcmp, 1) := by decide +kernel
theorem dX7_stick_140 : decode cX7_stick 140 = .ok (.ifCond .le 10, 3) := by decide +kernel
theorem dX7_stick_143 : decode cX7_stick 143 = .ok (.aload_n 0, 1) := by decide +kernel
theorem dX7_stick_144 : decode cX7_stick 144 = .ok (.bipush 6, 2) := by decide +kernel
theorem dX7_stick_146 : decode cX7_stick 146 = .ok (.invokevirtual 156, 3) := by decide +kernel
theorem dX7_stick_149 : decode cX7_stick 149 = .ok (.ireturn, 1) := by decide +kernel
theorem dX7_stick_150 : decode cX7_stick 150 = .ok (.aload_n 0, 1) := by decide +kernel
theorem dX7_stick_151 : decode cX7_stick 151 = .ok (.iload_n 1, 1) := by decide +kernel
theorem dX7_stick_152 : decode cX7_stick 152 = .ok (.aload_n 0, 1) := by decide +kernel
theorem dX7_stick_153 : decode cX7_stick 153 = .ok (.getfield 46, 3) := by decide +kernel
theorem dX7_stick_156 : decode cX7_stick 156 = .ok (.iload 4, 2) := by decide +kernel
theorem dX7_stick_158 : decode cX7_stick 158 = .ok (.laload, 1) := by decide +kernel
theorem dX7_stick_159 : decode cX7_stick 159 = .ok (.aload_n 0, 1) := by decide +kernel
theorem dX7_stick_160 : decode cX7_stick 160 = .ok (.getfield 13, 3) := by decide +kernel
theorem dX7_stick_163 : decode cX7_stick 163 = .ok (.iload_n 1, 1) := by decide +kernel
theorem dX7_stick_164 : decode cX7_stick 164 = .ok (.iaload, 1) := by decide +kernel
theorem dX7_stick_165 : decode cX7_stick 165 = .ok (.invokevirtual 179, 3) := by decide +kernel
theorem dX7_stick_168 : decode cX7_stick 168 = .ok (.ireturn, 1) := by decide +kernel
theorem dX7_undo_0 : decode cX7_undo 0 = .ok (.aload_n 0, 1) := by decide +kernel
theorem dX7_undo_1 : decode cX7_undo 1 = .ok (.getfield 139, 3) := by decide +kernel
theorem dX7_undo_4 : decode cX7_undo 4 = .ok (.ifCond .ne 5, 3) := by decide +kernel
theorem dX7_undo_7 : decode cX7_undo 7 = .ok (.iconst (-1), 1) := by decide +kernel
theorem dX7_undo_8 : decode cX7_undo 8 = .ok (.ireturn, 1) := by decide +kernel
theorem dX7_undo_9 : decode cX7_undo 9 = .ok (.aload_n 0, 1) := by decide +kernel
theorem dX7_undo_10 : decode cX7_undo 10 = .ok (.dup, 1) := by decide +kernel
theorem dX7_undo_11 : decode cX7_undo 11 = .ok (.getfield 139, 3) := by decide +kernel
theorem dX7_undo_14 : decode cX7_undo 14 = .ok (.iconst 1, 1) := by decide +kernel
theorem dX7_undo_15 : decode cX7_undo 15 = .ok (.isub, 1) := by decide +kernel
theorem dX7_undo_16 : decode cX7_undo 16 = .ok (.putfield 139, 3) := by decide +kernel
theorem dX7_undo_19 : decode cX7_undo 19 = .ok (.aload_n 0, 1) := by decide +kernel
theorem dX7_undo_20 : decode cX7_undo 20 = .ok (.getfield 53, 3) := by decide +kernel
theorem dX7_undo_23 : decode cX7_undo 23 = .ok (.aload_n 0, 1) := by decide +kernel
theorem dX7_undo_24 : decode cX7_undo 24 = .ok (.getfield 139, 3) := by decide +kernel
theorem dX7_undo_27 : decode cX7_undo 27 = .ok (.iaload, 1) := by decide +kernel
theorem dX7_undo_28 : decode cX7_undo 28 = .ok (.istore_n 1, 1) := by decide +kernel
theorem dX7_undo_29 : decode cX7_undo 29 = .ok (.aload_n 0, 1) := by decide +kernel
theorem dX7_undo_30 : decode cX7_undo 30 = .ok (.getfield 7, 3) := by decide +kernel
theorem dX7_undo_33 : decode cX7_undo 33 = .ok (.iload_n 1, 1) := by decide +kernel
theorem dX7_undo_34 : decode cX7_undo 34 = .ok (.aload_n 0, 1) := by decide +kernel
theorem dX7_undo_35 : decode cX7_undo 35 = .ok (.getfield 56, 3) := by decide +kernel
theorem dX7_undo_38 : decode cX7_undo 38 = .ok (.aload_n 0, 1) := by decide +kernel
theorem dX7_undo_39 : decode cX7_undo 39 = .ok (.getfield 139, 3) := by decide +kernel
theorem dX7_undo_42 : decode cX7_undo 42 = .ok (.laload, 1) := by decide +kernel
theorem dX7_undo_43 : decode cX7_undo 43 = .ok (.lastore, 1) := by decide +kernel
theorem dX7_undo_44 : decode cX7_undo 44 = .ok (.aload_n 0, 1) := by decide +kernel
theorem dX7_undo_45 : decode cX7_undo 45 = .ok (.getfield 13, 3) := by decide +kernel
theorem dX7_undo_48 : decode cX7_undo 48 = .ok (.iload_n 1, 1) := by decide +kernel
theorem dX7_undo_49 : decode cX7_undo 49 = .ok (.aload_n 0, 1) := by decide +kernel
theorem dX7_undo_50 : decode cX7_undo 50 = .ok (.getfield 59, 3) := by decide +kernel
theorem dX7_undo_53 : decode cX7_undo 53 = .ok (.aload_n 0, 1) := by decide +kernel
theorem dX7_undo_54 : decode cX7_undo 54 = .ok (.getfield 139, 3) := by decide +kernel
theorem dX7_undo_57 : decode cX7_undo 57 = .ok (.iaload, 1) := by decide +kernel
theorem dX7_undo_58 : decode cX7_undo 58 = .ok (.iastore, 1) := by decide +kernel
theorem dX7_undo_59 : decode cX7_undo 59 = .ok (.iload_n 1, 1) := by decide +kernel
theorem dX7_undo_60 : decode cX7_undo 60 = .ok (.ireturn, 1) := by decide +kernel
set_option maxRecDepth 20000 in
theorem ggX7_x_X7_isPoint : GoodIn wsX7_x wsX7_isPoint := goodIn_r _ [5] (by decide +kernel) (by decide +kernel)
set_option maxRecDepth 20000 in
theorem gX7_x_X7_isPoint : GoodIn wsX7_x (va_wsS RX7 170 yX7_isPoint wsX7_isPoint) := goodIn_app (goodIn_of _ (by decide +kernel)) ggX7_x_X7_isPoint
theorem dX7_x_0 : decode cX7_x 0 = .ok (.iload_n 1, 1) := by decide +kernel
theorem dX7_x_1 : decode cX7_x 1 = .ok (.invokestatic 170, 3) := by decide +kernel
theorem dX7_x_4 : decode cX7_x 4 = .ok (.ifCond .eq 12, 3) := by decide +kernel
theorem dX7_x_7 : decode cX7_x 7 = .ok (.aload_n 0, 1) := by decide +kernel
theorem dX7_x_8 : decode cX7_x 8 = .ok (.getfield 7, 3) := by decide +kernel
theorem dX7_x_11 : decode cX7_x 11 = .ok (.iload_n 1, 1) := by decide +kernel
theorem dX7_x_12 : decode cX7_x 12 = .ok (.laload, 1) := by decide +kernel
theorem dX7_x_13 : decode cX7_x 13 = .ok (.goto 4, 3) := by decide +kernel
theorem dX7_x_16 : decode cX7_x 16 = .ok (.lconst 0, 1) := by decide +kernel
theorem dX7_x_17 : decode cX7_x 17 = .ok (.lreturn, 1) := by decide +kernel
set_option maxRecDepth 20000 in
theorem ggX7_y_X7_isPoint : GoodIn wsX7_y wsX7_isPoint := goodIn_r _ [5] (by decide +kernel) (by decide +kernel)
set_option maxRecDepth 20000 in
theorem gX7_y_X7_isPoint : GoodIn wsX7_y (va_wsS RX7 170 yX7_isPoint wsX7_isPoint) := goodIn_app (goodIn_of _ (by decide +kernel)) ggX7_y_X7_isPoint
theorem dX7_y_0 : decode cX7_y 0 = .ok (.iload_n 1, 1) := by decide +kernel
theorem dX7_y_1 : decode cX7_y 1 = .ok (.invokestatic 170, 3) := by decide +kernel
theorem dX7_y_4 : decode cX7_y 4 = .ok (.ifCond .eq 12, 3) := by decide +kernel
theorem dX7_y_7 : decode cX7_y 7 = .ok (.aload_n 0, 1) := by decide +kernel
theorem dX7_y_8 : decode cX7_y 8 = .ok (.getfield 13, 3) := by decide +kernel
theorem dX7_y_11 : decode cX7_y 11 = .ok (.iload_n 1, 1) := by decide +kernel
theorem dX7_y_12 : decode cX7_y 12 = .ok (.iaload, 1) := by decide +kernel
theorem dX7_y_13 : decode cX7_y 13 = .ok (.goto 4, 3) := by decide +kernel
theorem dX7_y_16 : decode cX7_y 16 = .ok (.iconst 0, 1) := by decide +kernel
theorem dX7_y_17 : decode cX7_y 17 = .ok (.ireturn, 1) := by decide +kernel
set_option maxRecDepth 20000 in
theorem ggX7_side_X7_isPoint : GoodIn wsX7_side wsX7_isPoint := goodIn_r _ [7] (by decide +kernel) (by decide +kernel)
set_option maxRecDepth 20000 in
theorem gX7_side_X7_isPoint : GoodIn wsX7_side (va_wsS RX7 170 yX7_isPoint wsX7_isPoint) := goodIn_app (goodIn_of _ (by decide +kernel)) ggX7_side_X7_isPoint
set_option maxRecDepth 20000 in
theorem ggX7_side_X7_size : GoodIn wsX7_side wsX7_size := goodIn_r _ [10, 11] (by decide +kernel) (by decide +kernel)
set_option maxRecDepth 20000 in
theorem gX7_side_X7_size : GoodIn wsX7_side (va_wsS RX7 74 yX7_size wsX7_size) := goodIn_app (goodIn_of _ (by decide +kernel)) ggX7_side_X7_size
theorem dX7_side_0 : decode cX7_side 0 = .ok (.iload_n 1, 1) := by decide +kernel
theorem dX7_side_1 : decode cX7_side 1 = .ok (.invokestatic 170, 3) := by decide +kernel
theorem dX7_side_4 : decode cX7_side 4 = .ok (.ifCond .ne 5, 3) := by decide +kernel
theorem dX7_side_7 : decode cX7_side 7 = .ok (.lconst 0, 1) := by decide +kernel
theorem dX7_side_8 : decode cX7_side 8 = .ok (.lreturn, 1) := by decide +kernel
theorem dX7_side_9 : decode cX7_side 9 = .ok (.aload_n 0, 1) := by decide +kernel
theorem dX7_side_10 : decode cX7_side 10 = .ok (.getfield 7, 3) := by decide +kernel
theorem dX7_side_13 : decode cX7_side 13 = .ok (.iload_n 1, 1) := by decide +kernel
theorem dX7_side_14 : decode cX7_side 14 = .ok (.laload, 1) := by decide +kernel
theorem dX7_side_15 : decode cX7_side 15 = .ok (.invokestatic 74, 3) := by decide +kernel
theorem dX7_side_18 : decode cX7_side 18 = .ok (.lconst 0, 1) := by decide +kernel
theorem dX7_side_19 : decode cX7_side 19 = .ok (.lcmp, 1) := by decide +kernel
theorem dX7_side_20 : decode cX7_side 20 = .ok (.ifCond .ne 12, 3) := by decide +kernel
theorem dX7_side_23 : decode cX7_side 23 = .ok (.aload_n 0, 1) := by decide +kernel
theorem dX7_side_24 : decode cX7_side 24 = .ok (.getfield 7, 3) := by decide +kernel
theorem dX7_side_27 : decode cX7_side 27 = .ok (.iload_n 1, 1) := by decide +kernel
theorem dX7_side_28 : decode cX7_side 28 = .ok (.laload, 1) := by decide +kernel
theorem dX7_side_29 : decode cX7_side 29 = .ok (.goto 17, 3) := by decide +kernel
theorem dX7_side_32 : decode cX7_side 32 = .ok (.ldc2_w 28, 3) := by decide +kernel
theorem dX7_side_35 : decode cX7_side 35 = .ok (.aload_n 0, 1) := by decide +kernel
theorem dX7_side_36 : decode cX7_side 36 = .ok (.getfield 7, 3) := by decide +kernel
theorem dX7_side_39 : decode cX7_side 39 = .ok (.iload_n 1, 1) := by decide +kernel
theorem dX7_side_40 : decode cX7_side 40 = .ok (.laload, 1) := by decide +kernel
theorem dX7_side_41 : decode cX7_side 41 = .ok (.ldc2_w 83, 3) := by decide +kernel
theorem dX7_side_44 : decode cX7_side 44 = .ok (.land, 1) := by decide +kernel
theorem dX7_side_45 : decode cX7_side 45 = .ok (.lor, 1) := by decide +kernel
theorem dX7_side_46 : decode cX7_side 46 = .ok (.lreturn, 1) := by decide +kernel
set_option maxRecDepth 20000 in
theorem ggX7_lift_X7_isPoint : GoodIn wsX7_lift wsX7_isPoint := goodIn_r _ [7] (by decide +kernel) (by decide +kernel)
set_option maxRecDepth 20000 in
theorem gX7_lift_X7_isPoint : GoodIn wsX7_lift (va_wsS RX7 170 yX7_isPoint wsX7_isPoint) := goodIn_app (goodIn_of _ (by decide +kernel)) ggX7_lift_X7_isPoint
set_option maxRecDepth 20000 in
theorem ggX7_lift_X7_size4 : GoodIn wsX7_lift wsX7_size4 := goodIn_r _ [10, 11] (by decide +kernel) (by decide +kernel)
set_option maxRecDepth 20000 in
theorem gX7_lift_X7_size4 : GoodIn wsX7_lift (va_wsS RX7 109 yX7_size4 wsX7_size4) := goodIn_app (goodIn_of _ (by decide +kernel)) ggX7_lift_X7_size4
theorem dX7_lift_0 : decode cX7_lift 0 = .ok (.iload_n 1, 1) := by decide +kernel
theorem dX7_lift_1 : decode cX7_lift 1 = .ok (.invokestatic 170, 3) := by decide +kernel
theorem dX7_lift_4 : decode cX7_lift 4 = .ok (.ifCond .ne 5, 3) := by decide +kernel
theorem dX7_lift_7 : decode cX7_lift 7 = .ok (.iconst 0, 1) := by decide +kernel
theorem dX7_lift_8 : decode cX7_lift 8 = .ok (.ireturn, 1) := by decide +kernel
theorem dX7_lift_9 : decode cX7_lift 9 = .ok (.aload_n 0, 1) := by decide +kernel
theorem dX7_lift_10 : decode cX7_lift 10 = .ok (.getfield 13, 3) := by decide +kernel
theorem dX7_lift_13 : decode cX7_lift 13 = .ok (.iload_n 1, 1) := by decide +kernel
theorem dX7_lift_14 : decode cX7_lift 14 = .ok (.iaload, 1) := by decide +kernel
theorem dX7_lift_15 : decode cX7_lift 15 = .ok (.invokestatic 109, 3) := by decide +kernel
theorem dX7_lift_18 : decode cX7_lift 18 = .ok (.ifCond .ne 12, 3) := by decide +kernel
theorem dX7_lift_21 : decode cX7_lift 21 = .ok (.aload_n 0, 1) := by decide +kernel
theorem dX7_lift_22 : decode cX7_lift 22 = .ok (.getfield 13, 3) := by decide +kernel
theorem dX7_lift_25 : decode cX7_lift 25 = .ok (.iload_n 1, 1) := by decide +kernel
theorem dX7_lift_26 : decode cX7_lift 26 = .ok (.iaload, 1) := by decide +kernel
theorem dX7_lift_27 : decode cX7_lift 27 = .ok (.goto 15, 3) := by decide +kernel
theorem dX7_lift_30 : decode cX7_lift 30 = .ok (.ldc 42, 2) := by decide +kernel
theorem dX7_lift_32 : decode cX7_lift 32 = .ok (.aload_n 0, 1) := by decide +kernel
theorem dX7_lift_33 : decode cX7_lift 33 = .ok (.getfield 13, 3) := by decide +kernel
theorem dX7_lift_36 : decode cX7_lift 36 = .ok (.iload_n 1, 1) := by decide +kernel
theorem dX7_lift_37 : decode cX7_lift 37 = .ok (.iaload, 1) := by decide +kernel
theorem dX7_lift_38 : decode cX7_lift 38 = .ok (.ldc 98, 2) := by decide +kernel
theorem dX7_lift_40 : decode cX7_lift 40 = .ok (.iand, 1) := by decide +kernel
theorem dX7_lift_41 : decode cX7_lift 41 = .ok (.ior, 1) := by decide +kernel
theorem dX7_lift_42 : decode cX7_lift 42 = .ok (.ireturn, 1) := by decide +kernel
set_option maxRecDepth 20000 in
theorem ggX7_far_X7_isPoint : GoodIn wsX7_far wsX7_isPoint := goodIn_r _ [6] (by decide +kernel) (by decide +kernel)
set_option maxRecDepth 20000 in
theorem gX7_far_X7_isPoint : GoodIn wsX7_far (va_wsS RX7 170 yX7_isPoint wsX7_isPoint) := goodIn_app (goodIn_of _ (by decide +kernel)) ggX7_far_X7_isPoint
set_option maxRecDepth 20000 in
theorem ggX7_far_X7_of : GoodIn wsX7_far wsX7_of := goodIn_r _ [9, 10, 11, 12, 13] (by decide +kernel) (by decide +kernel)
set_option maxRecDepth 20000 in
theorem gX7_far_X7_of : GoodIn wsX7_far (va_wsS RX7 191 yX7_of wsX7_of) := goodIn_app (goodIn_of _ (by decide +kernel)) ggX7_far_X7_of
set_option maxRecDepth 20000 in
theorem ggX7_far_X7_bits : GoodIn wsX7_far wsX7_bits := goodIn_r _ [16, 17, 18, 19, 20, 21, 22, 23, 13, 24, 25, 26, 27] (by decide +kernel) (by decide +kernel)
set_option maxRecDepth 20000 in
theorem gX7_far_X7_bits : GoodIn wsX7_far (va_wsS RX7 194 yX7_bits wsX7_bits) := goodIn_app (goodIn_of _ (by decide +kernel)) ggX7_far_X7_bits
set_option maxRecDepth 20000 in
theorem ggX7_far_X7_size : GoodIn wsX7_far wsX7_size := goodIn_r _ [30, 31] (by decide +kernel) (by decide +kernel)
set_option maxRecDepth 20000 in
theorem gX7_far_X7_size : GoodIn wsX7_far (va_wsS RX7 74 yX7_size wsX7_size) := goodIn_app (goodIn_of _ (by decide +kernel)) ggX7_far_X7_size
set_option maxRecDepth 20000 in
theorem ggX7_far_X7_of4 : GoodIn wsX7_far wsX7_of4 := goodIn_r _ [34, 35, 36, 37, 38] (by decide +kernel) (by decide +kernel)
set_option maxRecDepth 20000 in
theorem gX7_far_X7_of4 : GoodIn wsX7_far (va_wsS RX7 197 yX7_of4 wsX7_of4) := goodIn_app (goodIn_of _ (by decide +kernel)) ggX7_far_X7_of4
set_option maxRecDepth 20000 in
theorem ggX7_far_X7_bits4 : GoodIn wsX7_far wsX7_bits4 := goodIn_r _ [41, 42, 43, 44, 45, 46, 47, 48, 38, 49, 50, 51, 52] (by decide +kernel) (by decide +kernel)
set_option maxRecDepth 20000 in
theorem gX7_far_X7_bits4 : GoodIn wsX7_far (va_wsS RX7 200 yX7_bits4 wsX7_bits4) := goodIn_app (goodIn_of _ (by decide +kernel)) ggX7_far_X7_bits4
set_option maxRecDepth 20000 in
theorem ggX7_far_X7_size4 : GoodIn wsX7_far wsX7_size4 := goodIn_r _ [55, 56] (by decide +kernel) (by decide +kernel)
set_option maxRecDepth 20000 in
theorem gX7_far_X7_size4 : GoodIn wsX7_far (va_wsS RX7 109 yX7_size4 wsX7_size4) := goodIn_app (goodIn_of _ (by decide +kernel)) ggX7_far_X7_size4
theorem dX7_far_0 : decode cX7_far 0 = .ok (.iload_n 1, 1) := by decide +kernel
theorem dX7_far_1 : decode cX7_far 1 = .ok (.invokestatic 170, 3) := by decide +kernel
theorem dX7_far_4 : decode cX7_far 4 = .ok (.ifCond .eq 10, 3) := by decide +kernel
theorem dX7_far_7 : decode cX7_far 7 = .ok (.iload_n 2, 1) := by decide +kernel
theorem dX7_far_8 : decode cX7_far 8 = .ok (.invokestatic 170, 3) := by decide +kernel
theorem dX7_far_11 : decode cX7_far 11 = .ok (.ifCond .ne 5, 3) := by decide +kernel
theorem dX7_far_14 : decode cX7_far 14 = .ok (.lconst 0, 1) := by decide +kernel
theorem dX7_far_15 : decode cX7_far 15 = .ok (.lreturn, 1) := by decide +kernel
theorem dX7_far_16 : decode cX7_far 16 = .ok (.aload_n 0, 1) := by decide +kernel
theorem dX7_far_17 : decode cX7_far 17 = .ok (.getfield 7, 3) := by decide +kernel
theorem dX7_far_20 : decode cX7_far 20 = .ok (.iload_n 1, 1) := by decide +kernel
theorem dX7_far_21 : decode cX7_far 21 = .ok (.laload, 1) := by decide +kernel
theorem dX7_far_22 : decode cX7_far 22 = .ok (.invokestatic 191, 3) := by decide +kernel
theorem dX7_far_25 : decode cX7_far 25 = .ok (.aload_n 0, 1) := by decide +kernel
theorem dX7_far_26 : decode cX7_far 26 = .ok (.getfield 7, 3) := by decide +kernel
theorem dX7_far_29 : decode cX7_far 29 = .ok (.iload_n 2, 1) := by decide +kernel
theorem dX7_far_30 : decode cX7_far 30 = .ok (.laload, 1) := by decide +kernel
theorem dX7_far_31 : decode cX7_far 31 = .ok (.invokestatic 191, 3) := by decide +kernel
theorem dX7_far_34 : decode cX7_far 34 = .ok (.dsub, 1) := by decide +kernel
theorem dX7_far_35 : decode cX7_far 35 = .ok (.invokestatic 194, 3) := by decide +kernel
theorem dX7_far_38 : decode cX7_far 38 = .ok (.invokestatic 74, 3) := by decide +kernel
theorem dX7_far_41 : decode cX7_far 41 = .ok (.lstore_n 3, 1) := by decide +kernel
theorem dX7_far_42 : decode cX7_far 42 = .ok (.aload_n 0, 1) := by decide +kernel
theorem dX7_far_43 : decode cX7_far 43 = .ok (.getfield 13, 3) := by decide +kernel
theorem dX7_far_46 : decode cX7_far 46 = .ok (.iload_n 1, 1) := by decide +kernel
theorem dX7_far_47 : decode cX7_far 47 = .ok (.iaload, 1) := by decide +kernel
theorem dX7_far_48 : decode cX7_far 48 = .ok (.invokestatic 197, 3) := by decide +kernel
theorem dX7_far_51 : decode cX7_far 51 = .ok (.aload_n 0, 1) := by decide +kernel
theorem dX7_far_52 : decode cX7_far 52 = .ok (.getfield 13, 3) := by decide +kernel
theorem dX7_far_55 : decode cX7_far 55 = .ok (.iload_n 2, 1) := by decide +kernel
theorem dX7_far_56 : decode cX7_far 56 = .ok (.iaload, 1) := by decide +kernel
theorem dX7_far_57 : decode cX7_far 57 = .ok (.invokestatic 197, 3) := by decide +kernel
theorem dX7_far_60 : decode cX7_far 60 = .ok (.fsub, 1) := by decide +kernel
theorem dX7_far_61 : decode cX7_far 61 = .ok (.invokestatic 200, 3) := by decide +kernel
theorem dX7_far_64 : decode cX7_far 64 = .ok (.invokestatic 109, 3) := by decide +kernel
theorem dX7_far_67 : decode cX7_far 67 = .ok (.istore 5, 2) := by decide +kernel
theorem dX7_far_69 : decode cX7_far 69 = .ok (.iload 5, 2) := by decide +kernel
theorem dX7_far_71 : decode cX7_far 71 = .ok (.invokestatic 197, 3) := by decide +kernel
theorem dX7_far_74 : decode cX7_far 74 = .ok (.f2d, 1) := by decide +kernel
theorem dX7_far_75 : decode cX7_far 75 = .ok (.invokestatic 194, 3) := by decide +kernel
theorem dX7_far_78 : decode cX7_far 78 = .ok (.lstore 6, 2) := by decide +kernel
theorem dX7_far_80 : decode cX7_far 80 = .ok (.lload_n 3, 1) := by decide +kernel
theorem dX7_far_81 : decode cX7_far 81 = .ok (.lload 6, 2) := by decide +kernel
theorem dX7_far_83 : decode cX7_far 83 = .ok (.lcmp, 1) := by decide +kernel
theorem dX7_far_84 : decode cX7_far 84 = .ok (.ifCond .le 7, 3) := by decide +kernel
theorem dX7_far_87 : decode cX7_far 87 = .ok (.lload_n 3, 1) := by decide +kernel
theorem dX7_far_88 : decode cX7_far 88 = .ok (.goto 5, 3) := by decide +kernel
theorem dX7_far_91 : decode cX7_far 91 = .ok (.lload 6, 2) := by decide +kernel
theorem dX7_far_93 : decode cX7_far 93 = .ok (.lreturn, 1) := by decide +kernel
set_option maxRecDepth 20000 in
theorem ggX7_cell_X7_isPoint : GoodIn wsX7_cell wsX7_isPoint := goodIn_r _ [6] (by decide +kernel) (by decide +kernel)
set_option maxRecDepth 20000 in
theorem gX7_cell_X7_isPoint : GoodIn wsX7_cell (va_wsS RX7 170 yX7_isPoint wsX7_isPoint) := goodIn_app (goodIn_of _ (by decide +kernel)) ggX7_cell_X7_isPoint
set_option maxRecDepth 20000 in
theorem ggX7_cell_X7_of : GoodIn wsX7_cell wsX7_of := goodIn_r _ [9, 10, 11, 12, 13] (by decide +kernel) (by decide +kernel)
set_option maxRecDepth 20000 in
theorem gX7_cell_X7_of : GoodIn wsX7_cell (va_wsS RX7 191 yX7_of wsX7_of) := goodIn_app (goodIn_of _ (by decide +kernel)) ggX7_cell_X7_of
set_option maxRecDepth 20000 in
theorem ggX7_cell_X7_bits : GoodIn wsX7_cell wsX7_bits := goodIn_r _ [16, 17, 18, 19, 20, 21, 22, 23, 13, 24, 25, 26, 27] (by decide +kernel) (by decide +kernel)
set_option maxRecDepth 20000 in
theorem gX7_cell_X7_bits : GoodIn wsX7_cell (va_wsS RX7 194 yX7_bits wsX7_bits) := goodIn_app (goodIn_of _ (by decide +kernel)) ggX7_cell_X7_bits
set_option maxRecDepth 20000 in
theorem ggX7_cell_X7_whole : GoodIn wsX7_cell wsX7_whole := goodIn_r _ [30, 31, 32, 33, 34, 35, 36, 5, 37, 38, 39, 40, 41] (by decide +kernel) (by decide +kernel)
set_option maxRecDepth 20000 in
theorem gX7_cell_X7_whole : GoodIn wsX7_cell (va_wsS RX7 203 yX7_whole wsX7_whole) := goodIn_app (goodIn_of _ (by decide +kernel)) ggX7_cell_X7_whole
set_option maxRecDepth 20000 in
theorem ggX7_cell_X7_whole32 : GoodIn wsX7_cell wsX7_whole32 := goodIn_r _ [44, 45, 46, 47, 48] (by decide +kernel) (by decide +kernel)
set_option maxRecDepth 20000 in
theorem gX7_cell_X7_whole32 : GoodIn wsX7_cell (va_wsS RX7 210 yX7_whole32 wsX7_whole32) := goodIn_app (goodIn_of _ (by decide +kernel)) ggX7_cell_X7_whole32
theorem dX7_cell_0 : decode cX7_cell 0 = .ok (.iload_n 1, 1) := by decide +kernel
theorem dX7_cell_1 : decode cX7_cell 1 = .ok (.invokestatic 170, 3) := by decide +kernel
theorem dX7_cell_4 : decode cX7_cell 4 = .ok (.ifCond .ne 5, 3) := by decide +kernel
theorem dX7_cell_7 : decode cX7_cell 7 = .ok (.iconst 0, 1) := by decide +kernel
theorem dX7_cell_8 : decode cX7_cell 8 = .ok (.ireturn, 1) := by decide +kernel
theorem dX7_cell_9 : decode cX7_cell 9 = .ok (.aload_n 0, 1) := by decide +kernel
theorem dX7_cell_10 : decode cX7_cell 10 = .ok (.getfield 7, 3) := by decide +kernel
theorem dX7_cell_13 : decode cX7_cell 13 = .ok (.iload_n 1, 1) := by decide +kernel
theorem dX7_cell_14 : decode cX7_cell 14 = .ok (.laload, 1) := by decide +kernel
theorem dX7_cell_15 : decode cX7_cell 15 = .ok (.invokestatic 191, 3) := by decide +kernel
theorem dX7_cell_18 : decode cX7_cell 18 = .ok (.aload_n 0, 1) := by decide +kernel
theorem dX7_cell_19 : decode cX7_cell 19 = .ok (.getfield 30, 3) := by decide +kernel
theorem dX7_cell_22 : decode cX7_cell 22 = .ok (.invokestatic 191, 3) := by decide +kernel
theorem dX7_cell_25 : decode cX7_cell 25 = .ok (.ddiv, 1) := by decide +kernel
theorem dX7_cell_26 : decode cX7_cell 26 = .ok (.invokestatic 194, 3) := by decide +kernel
theorem dX7_cell_29 : decode cX7_cell 29 = .ok (.iconst 0, 1) := by decide +kernel
theorem dX7_cell_30 : decode cX7_cell 30 = .ok (.invokestatic 203, 3) := by decide +kernel
theorem dX7_cell_33 : decode cX7_cell 33 = .ok (.invokestatic 191, 3) := by decide +kernel
theorem dX7_cell_36 : decode cX7_cell 36 = .ok (.invokestatic 210, 3) := by decide +kernel
theorem dX7_cell_39 : decode cX7_cell 39 = .ok (.ireturn, 1) := by decide +kernel
set_option maxRecDepth 20000 in
theorem ggX7_mark_X7_isPoint : GoodIn wsX7_mark wsX7_isPoint := goodIn_r _ [6] (by decide +kernel) (by decide +kernel)
set_option maxRecDepth 20000 in
theorem gX7_mark_X7_isPoint : GoodIn wsX7_mark (va_wsS RX7 170 yX7_isPoint wsX7_isPoint) := goodIn_app (goodIn_of _ (by decide +kernel)) ggX7_mark_X7_isPoint
set_option maxRecDepth 20000 in
theorem ggX7_mark_X7_of4 : GoodIn wsX7_mark wsX7_of4 := goodIn_r _ [9, 10, 11, 12, 13] (by decide +kernel) (by decide +kernel)
set_option maxRecDepth 20000 in
theorem gX7_mark_X7_of4 : GoodIn wsX7_mark (va_wsS RX7 197 yX7_of4 wsX7_of4) := goodIn_app (goodIn_of _ (by decide +kernel)) ggX7_mark_X7_of4
set_option maxRecDepth 20000 in
theorem ggX7_mark_X7_bits4 : GoodIn wsX7_mark wsX7_bits4 := goodIn_r _ [16, 17, 18, 19, 20, 21, 22, 23, 13, 24, 25, 26, 27] (by decide +kernel) (by decide +kernel)
set_option maxRecDepth 20000 in
theorem gX7_mark_X7_bits4 : GoodIn wsX7_mark (va_wsS RX7 200 yX7_bits4 wsX7_bits4) := goodIn_app (goodIn_of _ (by decide +kernel)) ggX7_mark_X7_bits4
set_option maxRecDepth 20000 in
theorem ggX7_mark_X7_whole4 : GoodIn wsX7_mark wsX7_whole4 := goodIn_r _ [30, 31, 32, 33, 34, 35, 5, 36, 37] (by decide +kernel) (by decide +kernel)
set_option maxRecDepth 20000 in
theorem gX7_mark_X7_whole4 : GoodIn wsX7_mark (va_wsS RX7 207 yX7_whole4 wsX7_whole4) := goodIn_app (goodIn_of _ (by decide +kernel)) ggX7_mark_X7_whole4
set_option maxRecDepth 20000 in
theorem ggX7_mark_X7_whole64 : GoodIn wsX7_mark wsX7_whole64 := goodIn_r _ [40, 41, 42, 43, 44] (by decide +kernel) (by decide +kernel)
set_option maxRecDepth 20000 in
theorem gX7_mark_X7_whole64 : GoodIn wsX7_mark (va_wsS RX7 214 yX7_whole64 wsX7_whole64) := goodIn_app (goodIn_of _ (by decide +kernel)) ggX7_mark_X7_whole64
theorem dX7_mark_0 : decode cX7_mark 0 = .ok (.iload_n 1, 1) := by decide +kernel
theorem dX7_mark_1 : decode cX7_mark 1 = .ok (.invokestatic 170, 3) := by decide +kernel
theorem dX7_mark_4 : decode cX7_mark 4 = .ok (.ifCond .ne 5, 3) := by decide +kernel
theorem dX7_mark_7 : decode cX7_mark 7 = .ok (.lconst 0, 1) := by decide +kernel
theorem dX7_mark_8 : decode cX7_mark 8 = .ok (.lreturn, 1) := by decide +kernel
theorem dX7_mark_9 : decode cX7_mark 9 = .ok (.aload_n 0, 1) := by decide +kernel
theorem dX7_mark_10 : decode cX7_mark 10 = .ok (.getfield 13, 3) := by decide +kernel
theorem dX7_mark_13 : decode cX7_mark 13 = .ok (.iload_n 1, 1) := by decide +kernel
theorem dX7_mark_14 : decode cX7_mark 14 = .ok (.iaload, 1) := by decide +kernel
theorem dX7_mark_15 : decode cX7_mark 15 = .ok (.invokestatic 197, 3) := by decide +kernel
theorem dX7_mark_18 : decode cX7_mark 18 = .ok (.aload_n 0, 1) := by decide +kernel
theorem dX7_mark_19 : decode cX7_mark 19 = .ok (.getfield 43, 3) := by decide +kernel
theorem dX7_mark_22 : decode cX7_mark 22 = .ok (.invokestatic 197, 3) := by decide +kernel
theorem dX7_mark_25 : decode cX7_mark 25 = .ok (.fdiv, 1) := by decide +kernel
theorem dX7_mark_26 : decode cX7_mark 26 = .ok (.invokestatic 200, 3) := by decide +kernel
theorem dX7_mark_29 : decode cX7_mark 29 = .ok (.iconst 2, 1) := by decide +kernel
theorem dX7_mark_30 : decode cX7_mark 30 = .ok (.invokestatic 207, 3) := by decide +kernel
theorem dX7_mark_33 : decode cX7_mark 33 = .ok (.invokestatic 197, 3) := by decide +kernel
theorem dX7_mark_36 : decode cX7_mark 36 = .ok (.invokestatic 214, 3) := by decide +kernel
theorem dX7_mark_39 : decode cX7_mark 39 = .ok (.lreturn, 1) := by decide +kernel
set_option maxRecDepth 20000 in
theorem ggX7_gap_X7_isPoint : GoodIn wsX7_gap wsX7_isPoint := goodIn_r _ [4] (by decide +kernel) (by decide +kernel)
set_option maxRecDepth 20000 in
theorem gX7_gap_X7_isPoint : GoodIn wsX7_gap (va_wsS RX7 170 yX7_isPoint wsX7_isPoint) := goodIn_app (goodIn_of _ (by decide +kernel)) ggX7_gap_X7_isPoint
set_option maxRecDepth 20000 in
theorem ggX7_gap_X7_cell : GoodIn wsX7_gap wsX7_cell := goodIn_r _ [8, 9, 10, 1, 2, 3, 4, 11, 12, 13, 14, 15, 16, 17, 18, 19, 20, 21, 22, 23, 24, 25, 26, 27, 28, 29, 30, 31, 32, 33, 34, 35, 36, 37, 38, 39, 40, 41, 42, 43, 44, 45, 46, 47, 48, 49, 50, 51, 52, 53, 54, 55, 56, 57, 58, 59, 60, 61, 62, 63, 64, 65, 66, 67, 68, 69] (by decide +kernel) (by decide +kernel)
set_option maxRecDepth 20000 in
theorem gX7_gap_X7_cell : GoodIn wsX7_gap (wsV RX7 218 RX7 yX7_cell wsX7_cell) := goodIn_app (goodIn_of _ (by decide +kernel)) ggX7_gap_X7_cell
theorem dX7_gap_0 : decode cX7_gap 0 = .ok (.iload_n 1, 1) := by decide +kernel
theorem dX7_gap_1 : decode cX7_gap 1 = .ok (.invokestatic 170, 3) := by decide +kernel
theorem dX7_gap_4 : decode cX7_gap 4 = .ok (.ifCond .eq 10, 3) := by decide +kernel
theorem dX7_gap_7 : decode cX7_gap 7 = .ok (.iload_n 2, 1) := by decide +kernel
theorem dX7_gap_8 : decode cX7_gap 8 = .ok (.invokestatic 170, 3) := by decide +kernel
theorem dX7_gap_11 : decode cX7_gap 11 = .ok (.ifCond .ne 5, 3) := by decide +kernel
theorem dX7_gap_14 : decode cX7_gap 14 = .ok (.iconst 0, 1) := by decide +kernel
theorem dX7_gap_15 : decode cX7_gap 15 = .ok (.ireturn, 1) := by decide +kernel
theorem dX7_gap_16 : decode cX7_gap 16 = .ok (.aload_n 0, 1) := by decide +kernel
theorem dX7_gap_17 : decode cX7_gap 17 = .ok (.iload_n 1, 1) := by decide +kernel
theorem dX7_gap_18 : decode cX7_gap 18 = .ok (.invokevirtual 218, 3) := by decide +kernel
theorem dX7_gap_21 : decode cX7_gap 21 = .ok (.aload_n 0, 1) := by decide +kernel
theorem dX7_gap_22 : decode cX7_gap 22 = .ok (.iload_n 2, 1) := by decide +kernel
theorem dX7_gap_23 : decode cX7_gap 23 = .ok (.invokevirtual 218, 3) := by decide +kernel
theorem dX7_gap_26 : decode cX7_gap 26 = .ok (.isub, 1) := by decide +kernel
theorem dX7_gap_27 : decode cX7_gap 27 = .ok (.istore_n 3, 1) := by decide +kernel
theorem dX7_gap_28 : decode cX7_gap 28 = .ok (.iload_n 3, 1) := by decide +kernel
theorem dX7_gap_29 : decode cX7_gap 29 = .ok (.ifCond .ge 8, 3) := by decide +kernel
theorem dX7_gap_32 : decode cX7_gap 32 = .ok (.iload_n 3, 1) := by decide +kernel
theorem dX7_gap_33 : decode cX7_gap 33 = .ok (.ineg, 1) := by decide +kernel
theorem dX7_gap_34 : decode cX7_gap 34 = .ok (.goto 4, 3) := by decide +kernel
theorem dX7_gap_37 : decode cX7_gap 37 = .ok (.iload_n 3, 1) := by decide +kernel
theorem dX7_gap_38 : decode cX7_gap 38 = .ok (.ireturn, 1) := by decide +kernel
set_option maxRecDepth 20000 in
theorem ggX7_rise_X7_isPoint : GoodIn wsX7_rise wsX7_isPoint := goodIn_r _ [4] (by decide +kernel) (by decide +kernel)
set_option maxRecDepth 20000 in
theorem gX7_rise_X7_isPoint : GoodIn wsX7_rise (va_wsS RX7 170 yX7_isPoint wsX7_isPoint) := goodIn_app (goodIn_of _ (by decide +kernel)) ggX7_rise_X7_isPoint
set_option maxRecDepth 20000 in
theorem ggX7_rise_X7_mark : GoodIn wsX7_rise wsX7_mark := goodIn_r _ [8, 9, 10, 1, 2, 3, 4, 11, 12, 13, 14, 15, 16, 17, 18, 19, 20, 21, 22, 23, 24, 25, 26, 27, 28, 29, 30, 31, 32, 33, 34, 35, 36, 37, 38, 39, 40, 41, 42, 43, 44, 45, 46, 47, 48, 49, 50, 51, 52, 53, 54, 55, 56, 57, 58, 59, 60, 61, 62, 63, 64, 65] (by decide +kernel) (by decide +kernel)
set_option maxRecDepth 20000 in
theorem gX7_rise_X7_mark : GoodIn wsX7_rise (wsV RX7 221 RX7 yX7_mark wsX7_mark) := goodIn_app (goodIn_of _ (by decide +kernel)) ggX7_rise_X7_mark
theorem dX7_rise_0 : decode cX7_rise 0 = .ok (.iload_n 1, 1) := by decide +kernel
theorem dX7_rise_1 : decode cX7_rise 1 = .ok (.invokestatic 170, 3) := by decide +kernel
theorem dX7_rise_4 : decode cX7_rise 4 = .ok (.ifCond .eq 10, 3) := by decide +kernel
theorem dX7_rise_7 : decode cX7_rise 7 = .ok (.iload_n 2, 1) := by decide +kernel
theorem dX7_rise_8 : decode cX7_rise 8 = .ok (.invokestatic 170, 3) := by decide +kernel
theorem dX7_rise_11 : decode cX7_rise 11 = .ok (.ifCond .ne 5, 3) := by decide +kernel
theorem dX7_rise_14 : decode cX7_rise 14 = .ok (.lconst 0, 1) := by decide +kernel
theorem dX7_rise_15 : decode cX7_rise 15 = .ok (.lreturn, 1) := by decide +kernel
theorem dX7_rise_16 : decode cX7_rise 16 = .ok (.aload_n 0, 1) := by decide +kernel
theorem dX7_rise_17 : decode cX7_rise 17 = .ok (.iload_n 1, 1) := by decide +kernel
theorem dX7_rise_18 : decode cX7_rise 18 = .ok (.invokevirtual 221, 3) := by decide +kernel
theorem dX7_rise_21 : decode cX7_rise 21 = .ok (.aload_n 0, 1) := by decide +kernel
theorem dX7_rise_22 : decode cX7_rise 22 = .ok (.iload_n 2, 1) := by decide +kernel
theorem dX7_rise_23 : decode cX7_rise 23 = .ok (.invokevirtual 221, 3) := by decide +kernel
theorem dX7_rise_26 : decode cX7_rise 26 = .ok (.lsub, 1) := by decide +kernel
theorem dX7_rise_27 : decode cX7_rise 27 = .ok (.lstore_n 3, 1) := by decide +kernel
theorem dX7_rise_28 : decode cX7_rise 28 = .ok (.lload_n 3, 1) := by decide +kernel
theorem dX7_rise_29 : decode cX7_rise 29 = .ok (.lconst 0, 1) := by decide +kernel
theorem dX7_rise_30 : decode cX7_rise 30 = .ok (.lcmp, 1) := by decide +kernel
theorem dX7_rise_31 : decode cX7_rise 31 = .ok (.ifCond .ge 8, 3) := by decide +kernel
theorem dX7_rise_34 : decode cX7_rise 34 = .ok (.lload_n 3, 1) := by decide +kernel
theorem dX7_rise_35 : decode cX7_rise 35 = .ok (.lneg, 1) := by decide +kernel
theorem dX7_rise_36 : decode cX7_rise 36 = .ok (.goto 4, 3) := by decide +kernel
theorem dX7_rise_39 : decode cX7_rise 39 = .ok (.lload_n 3, 1) := by decide +kernel
theorem dX7_rise_40 : decode cX7_rise 40 = .ok (.lreturn, 1) := by decide +kernel
set_option maxRecDepth 20000 in
theorem ggX7_edge_X7_greater : GoodIn wsX7_edge wsX7_greater := goodIn_r _ [5, 6, 7, 4, 8, 9, 10, 11, 12, 13] (by decide +kernel) (by decide +kernel)
set_option maxRecDepth 20000 in
theorem gX7_edge_X7_greater : GoodIn wsX7_edge (va_wsS RX7 129 yX7_greater wsX7_greater) := goodIn_app (goodIn_of _ (by decide +kernel)) ggX7_edge_X7_greater
set_option maxRecDepth 20000 in
theorem ggX7_edge_X7_lesser : GoodIn wsX7_edge wsX7_lesser := goodIn_r _ [16, 6, 7, 4, 8, 9, 10, 11, 12, 13] (by decide +kernel) (by decide +kernel)
set_option maxRecDepth 20000 in
theorem gX7_edge_X7_lesser : GoodIn wsX7_edge (va_wsS RX7 125 yX7_lesser wsX7_lesser) := goodIn_app (goodIn_of _ (by decide +kernel)) ggX7_edge_X7_lesser
theorem dX7_edge_0 : decode cX7_edge 0 = .ok (.iload_n 1, 1) := by decide +kernel
theorem dX7_edge_1 : decode cX7_edge 1 = .ok (.ifCond .lt 8, 3) := by decide +kernel
theorem dX7_edge_4 : decode cX7_edge 4 = .ok (.iload_n 1, 1) := by decide +kernel
theorem dX7_edge_5 : decode cX7_edge 5 = .ok (.iconst 1, 1) := by decide +kernel
theorem dX7_edge_6 : decode cX7_edge 6 = .ok (.if_icmp .le 5, 3) := by decide +kernel
theorem dX7_edge_9 : decode cX7_edge 9 = .ok (.lconst 0, 1) := by decide +kernel
theorem dX7_edge_10 : decode cX7_edge 10 = .ok (.lreturn, 1) := by decide +kernel
theorem dX7_edge_11 : decode cX7_edge 11 = .ok (.aload_n 0, 1) := by decide +kernel
theorem dX7_edge_12 : decode cX7_edge 12 = .ok (.getfield 7, 3) := by decide +kernel
theorem dX7_edge_15 : decode cX7_edge 15 = .ok (.iconst 0, 1) := by decide +kernel
theorem dX7_edge_16 : decode cX7_edge 16 = .ok (.laload, 1) := by decide +kernel
theorem dX7_edge_17 : decode cX7_edge 17 = .ok (.lstore_n 2, 1) := by decide +kernel
theorem dX7_edge_18 : decode cX7_edge 18 = .ok (.iconst 1, 1) := by decide +kernel
theorem dX7_edge_19 : decode cX7_edge 19 = .ok (.istore 4, 2) := by decide +kernel
theorem dX7_edge_21 : decode cX7_edge 21 = .ok (.iload 4, 2) := by decide +kernel
theorem dX7_edge_23 : decode cX7_edge 23 = .ok (.bipush 8, 2) := by decide +kernel
theorem dX7_edge_25 : decode cX7_edge 25 = .ok (.if_icmp .ge 39, 3) := by decide +kernel
theorem dX7_edge_28 : decode cX7_edge 28 = .ok (.iload_n 1, 1) := by decide +kernel
theorem dX7_edge_29 : decode cX7_edge 29 = .ok (.ifCond .ne 17, 3) := by decide +kernel
theorem dX7_edge_32 : decode cX7_edge 32 = .ok (.lload_n 2, 1) := by decide +kernel
theorem dX7_edge_33 : decode cX7_edge 33 = .ok (.aload_n 0, 1) := by decide +kernel
theorem dX7_edge_34 : decode cX7_edge 34 = .ok (.getfield 7, 3) := by decide +kernel
theorem dX7_edge_37 : decode cX7_edge 37 = .ok (.iload 4, 2) := by decide +kernel
theorem dX7_edge_39 : decode cX7_edge 39 = .ok (.laload, 1) := by decide +kernel
theorem dX7_edge_40 : decode cX7_edge 40 = .ok (.invokestatic 129, 3) := by decide +kernel
theorem dX7_edge_43 : decode cX7_edge 43 = .ok (.goto 14, 3) := by decide +kernel
theorem dX7_edge_46 : decode cX7_edge 46 = .ok (.lload_n 2, 1) := by decide +kernel
theorem dX7_edge_47 : decode cX7_edge 47 = .ok (.aload_n 0, 1) := by decide +kernel
theorem dX7_edge_48 : decode cX7_edge 48 = .ok (.getfield 7, 3) := by decide +kernel
theorem dX7_edge_51 : decode cX7_edge 51 = .ok (.iload 4, 2) := by decide +kernel
theorem dX7_edge_53 : decode cX7_edge 53 = .ok (.laload, 1) := by decide +kernel
theorem dX7_edge_54 : decode cX7_edge 54 = .ok (.invokestatic 125, 3) := by decide +kernel
theorem dX7_edge_57 : decode cX7_edge 57 = .ok (.lstore_n 2, 1) := by decide +kernel
theorem dX7_edge_58 : decode cX7_edge 58 = .ok (.iinc 4 1, 3) := by decide +kernel
theorem dX7_edge_61 : decode cX7_edge 61 = .ok (.goto (-40), 3) := by decide +kernel
theorem dX7_edge_64 : decode cX7_edge 64 = .ok (.lload_n 2, 1) := by decide +kernel
theorem dX7_edge_65 : decode cX7_edge 65 = .ok (.lreturn, 1) := by decide +kernel
set_option maxRecDepth 20000 in
theorem ggX7_rim_X7_greater4 : GoodIn wsX7_rim wsX7_greater4 := goodIn_r _ [5, 6, 7, 4, 8, 9, 10, 11, 12] (by decide +kernel) (by decide +kernel)
set_option maxRecDepth 20000 in
theorem gX7_rim_X7_greater4 : GoodIn wsX7_rim (va_wsS RX7 136 yX7_greater4 wsX7_greater4) := goodIn_app (goodIn_of _ (by decide +kernel)) ggX7_rim_X7_greater4
set_option maxRecDepth 20000 in
theorem ggX7_rim_X7_lesser4 : GoodIn wsX7_rim wsX7_lesser4 := goodIn_r _ [15, 6, 7, 4, 8, 9, 10, 11, 12] (by decide +kernel) (by decide +kernel)
set_option maxRecDepth 20000 in
theorem gX7_rim_X7_lesser4 : GoodIn wsX7_rim (va_wsS RX7 132 yX7_lesser4 wsX7_lesser4) := goodIn_app (goodIn_of _ (by decide +kernel)) ggX7_rim_X7_lesser4
theorem dX7_rim_0 : decode cX7_rim 0 = .ok (.iload_n 1, 1) := by decide +kernel
theorem dX7_rim_1 : decode cX7_rim 1 = .ok (.ifCond .lt 8, 3) := by decide +kernel
theorem dX7_rim_4 : decode cX7_rim 4 = .ok (.iload_n 1, 1) := by decide +kernel
theorem dX7_rim_5 : decode cX7_rim 5 = .ok (.iconst 1, 1) := by decide +kernel
theorem dX7_rim_6 : decode cX7_rim 6 = .ok (.if_icmp .le 5, 3) := by decide +kernel
theorem dX7_rim_9 : decode cX7_rim 9 = .ok (.iconst 0, 1) := by decide +kernel
theorem dX7_rim_10 : decode cX7_rim 10 = .ok (.ireturn, 1) := by decide +kernel
theorem dX7_rim_11 : decode cX7_rim 11 = .ok (.aload_n 0, 1) := by decide +kernel
theorem dX7_rim_12 : decode cX7_rim 12 = .ok (.getfield 13, 3) := by decide +kernel
theorem dX7_rim_15 : decode cX7_rim 15 = .ok (.iconst 0, 1) := by decide +kernel
theorem dX7_rim_16 : decode cX7_rim 16 = .ok (.iaload, 1) := by decide +kernel
theorem dX7_rim_17 : decode cX7_rim 17 = .ok (.istore_n 2, 1) := by decide +kernel
theorem dX7_rim_18 : decode cX7_rim 18 = .ok (.iconst 1, 1) := by decide +kernel
theorem dX7_rim_19 : decode cX7_rim 19 = .ok (.istore_n 3, 1) := by decide +kernel
theorem dX7_rim_20 : decode cX7_rim 20 = .ok (.iload_n 3, 1) := by decide +kernel
theorem dX7_rim_21 : decode cX7_rim 21 = .ok (.bipush 8, 2) := by decide +kernel
theorem dX7_rim_23 : decode cX7_rim 23 = .ok (.if_icmp .ge 37, 3) := by decide +kernel
theorem dX7_rim_26 : decode cX7_rim 26 = .ok (.iload_n 1, 1) := by decide +kernel
theorem dX7_rim_27 : decode cX7_rim 27 = .ok (.ifCond .ne 16, 3) := by decide +kernel
theorem dX7_rim_30 : decode cX7_rim 30 = .ok (.iload_n 2, 1) := by decide +kernel
theorem dX7_rim_31 : decode cX7_rim 31 = .ok (.aload_n 0, 1) := by decide +kernel
theorem dX7_rim_32 : decode cX7_rim 32 = .ok (.getfield 13, 3) := by decide +kernel
theorem dX7_rim_35 : decode cX7_rim 35 = .ok (.iload_n 3, 1) := by decide +kernel
theorem dX7_rim_36 : decode cX7_rim 36 = .ok (.iaload, 1) := by decide +kernel
theorem dX7_rim_37 : decode cX7_rim 37 = .ok (.invokestatic 136, 3) := by decide +kernel
theorem dX7_rim_40 : decode cX7_rim 40 = .ok (.goto 13, 3) := by decide +kernel
theorem dX7_rim_43 : decode cX7_rim 43 = .ok (.iload_n 2, 1) := by decide +kernel
theorem dX7_rim_44 : decode cX7_rim 44 = .ok (.aload_n 0, 1) := by decide +kernel
theorem dX7_rim_45 : decode cX7_rim 45 = .ok (.getfield 13, 3) := by decide +kernel
theorem dX7_rim_48 : decode cX7_rim 48 = .ok (.iload_n 3, 1) := by decide +kernel
theorem dX7_rim_49 : decode cX7_rim 49 = .ok (.iaload, 1) := by decide +kernel
theorem dX7_rim_50 : decode cX7_rim 50 = .ok (.invokestatic 132, 3) := by decide +kernel
theorem dX7_rim_53 : decode cX7_rim 53 = .ok (.istore_n 2, 1) := by decide +kernel
theorem dX7_rim_54 : decode cX7_rim 54 = .ok (.iinc 3 1, 3) := by decide +kernel
theorem dX7_rim_57 : decode cX7_rim 57 = .ok (.goto (-37), 3) := by decide +kernel
theorem dX7_rim_60 : decode cX7_rim 60 = .ok (.iload_n 2, 1) := by decide +kernel
theorem dX7_rim_61 : decode cX7_rim 61 = .ok (.ireturn, 1) := by decide +kernel
set_option maxRecDepth 20000 in
theorem ggX7_neighbour_X7_isPoint : GoodIn wsX7_neighbour wsX7_isPoint := goodIn_r _ [4] (by decide +kernel) (by decide +kernel)
set_option maxRecDepth 20000 in
theorem gX7_neighbour_X7_isPoint : GoodIn wsX7_neighbour (va_wsS RX7 170 yX7_isPoint wsX7_isPoint) := goodIn_app (goodIn_of _ (by decide +kernel)) ggX7_neighbour_X7_isPoint
set_option maxRecDepth 20000 in
theorem ggX7_neighbour_X7_far : GoodIn wsX7_neighbour wsX7_far := goodIn_r _ [8, 9, 10, 1, 2, 3, 4, 11, 12, 13, 14, 15, 16, 17, 18, 19, 20, 21, 22, 23, 24, 25, 26, 27, 28, 29, 30, 31, 32, 33, 34, 35, 36, 37, 38, 39, 40, 41, 42, 43, 44, 45, 46, 47, 48, 49, 50, 51, 52, 53, 54, 55, 56, 57, 58, 59, 60, 61, 62, 63, 64, 65, 66, 67, 68, 69, 70, 71, 72, 73, 74, 75, 76, 77] (by decide +kernel) (by decide +kernel)
set_option maxRecDepth 20000 in
theorem gX7_neighbour_X7_far : GoodIn wsX7_neighbour (wsV RX7 225 RX7 yX7_far wsX7_far) := goodIn_app (goodIn_of _ (by decide +kernel)) ggX7_neighbour_X7_far
theorem dX7_neighbour_0 : decode cX7_neighbour 0 = .ok (.iload_n 1, 1) := by decide +kernel
theorem dX7_neighbour_1 : decode cX7_neighbour 1 = .ok (.invokestatic 170, 3) := by decide +kernel
theorem dX7_neighbour_4 : decode cX7_neighbour 4 = .ok (.ifCond .ne 5, 3) := by decide +kernel
theorem dX7_neighbour_7 : decode cX7_neighbour 7 = .ok (.iconst (-1), 1) := by decide +kernel
theorem dX7_neighbour_8 : decode cX7_neighbour 8 = .ok (.ireturn, 1) := by decide +kernel
theorem dX7_neighbour_9 : decode cX7_neighbour 9 = .ok (.iconst (-1), 1) := by decide +kernel
theorem dX7_neighbour_10 : decode cX7_neighbour 10 = .ok (.istore_n 2, 1) := by decide +kernel
theorem dX7_neighbour_11 : decode cX7_neighbour 11 = .ok (.iconst 0, 1) := by decide +kernel
theorem dX7_neighbour_12 : decode cX7_neighbour 12 = .ok (.istore_n 3, 1) := by decide +kernel
theorem dX7_neighbour_13 : decode cX7_neighbour 13 = .ok (.iload_n 3, 1) := by decide +kernel
theorem dX7_neighbour_14 : decode cX7_neighbour 14 = .ok (.bipush 8, 2) := by decide +kernel
theorem dX7_neighbour_16 : decode cX7_neighbour 16 = .ok (.if_icmp .ge 40, 3) := by decide +kernel
theorem dX7_neighbour_19 : decode cX7_neighbour 19 = .ok (.iload_n 3, 1) := by decide +kernel
theorem dX7_neighbour_20 : decode cX7_neighbour 20 = .ok (.iload_n 1, 1) := by decide +kernel
theorem dX7_neighbour_21 : decode cX7_neighbour 21 = .ok (.if_icmp .ne 6, 3) := by decide +kernel
theorem dX7_neighbour_24 : decode cX7_neighbour 24 = .ok (.goto 26, 3) := by decide +kernel
theorem dX7_neighbour_27 : decode cX7_neighbour 27 = .ok (.iload_n 2, 1) := by decide +kernel
theorem dX7_neighbour_28 : decode cX7_neighbour 28 = .ok (.iconst (-1), 1) := by decide +kernel
theorem dX7_neighbour_29 : decode cX7_neighbour 29 = .ok (.if_icmp .eq 19, 3) := by decide +kernel
theorem dX7_neighbour_32 : decode cX7_neighbour 32 = .ok (.aload_n 0, 1) := by decide +kernel
theorem dX7_neighbour_33 : decode cX7_neighbour 33 = .ok (.iload_n 1, 1) := by decide +kernel
theorem dX7_neighbour_34 : decode cX7_neighbour 34 = .ok (.iload_n 3, 1) := by decide +kernel
theorem dX7_neighbour_35 : decode cX7_neighbour 35 = .ok (.invokevirtual 225, 3) := by decide +kernel
theorem dX7_neighbour_38 : decode cX7_neighbour 38 = .ok (.aload_n 0, 1) := by decide +kernel
theorem dX7_neighbour_39 : decode cX7_neighbour 39 = .ok (.iload_n 1, 1) := by decide +kernel
theorem dX7_neighbour_40 : decode cX7_neighbour 40 = .ok (.iload_n 2, 1) := by decide +kernel
theorem dX7_neighbour_41 : decode cX7_neighbour 41 = .ok (.invokevirtual 225, 3) := by decide +kernel
theorem dX7_neighbour_44 : decode cX7_neighbour 44 = .ok (.lcmp, 1) := by decide +kernel
theorem dX7_neighbour_45 : decode cX7_neighbour 45 = .ok (.ifCond .ge 5, 3) := by decide +kernel
theorem dX7_neighbour_48 : decode cX7_neighbour 48 = .ok (.iload_n 3, 1) := by decide +kernel
theorem dX7_neighbour_49 : decode cX7_neighbour 49 = .ok (.istore_n 2, 1) := by decide +kernel
theorem dX7_neighbour_50 : decode cX7_neighbour 50 = .ok (.iinc 3 1, 3) := by decide +kernel
theorem dX7_neighbour_53 : decode cX7_neighbour 53 = .ok (.goto (-40), 3) := by decide +kernel
theorem dX7_neighbour_56 : decode cX7_neighbour 56 = .ok (.iload_n 2, 1) := by decide +kernel
theorem dX7_neighbour_57 : decode cX7_neighbour 57 = .ok (.ireturn, 1) := by decide +kernel
set_option maxRecDepth 20000 in
theorem ggX7_column_X7_cell : GoodIn wsX7_column wsX7_cell := goodIn_r _ [5, 6, 7, 8, 9, 4, 10, 11, 12, 13, 14, 15, 16, 17, 18, 19, 20, 21, 22, 23, 24, 25, 26, 27, 28, 29, 30, 31, 32, 33, 34, 35, 36, 37, 38, 39, 40, 41, 42, 43, 44, 45, 46, 47, 48, 49, 50, 51, 52, 53, 54, 55, 56, 57, 58, 59, 60, 61, 62, 63, 64, 65, 66, 67, 68, 69] (by decide +kernel) (by decide +kernel)
set_option maxRecDepth 20000 in
theorem gX7_column_X7_cell : GoodIn wsX7_column (wsV RX7 218 RX7 yX7_cell wsX7_cell) := goodIn_app (goodIn_of _ (by decide +kernel)) ggX7_column_X7_cell
theorem dX7_column_0 : decode cX7_column 0 = .ok (.iload_n 1, 1) := by decide +kernel
theorem dX7_column_1 : decode cX7_column 1 = .ok (.ifCond .lt 8, 3) := by decide +kernel
theorem dX7_column_4 : decode cX7_column 4 = .ok (.iload_n 1, 1) := by decide +kernel
theorem dX7_column_5 : decode cX7_column 5 = .ok (.iconst 1, 1) := by decide +kernel
theorem dX7_column_6 : decode cX7_column 6 = .ok (.if_icmp .le 5, 3) := by decide +kernel
theorem dX7_column_9 : decode cX7_column 9 = .ok (.iconst 0, 1) := by decide +kernel
theorem dX7_column_10 : decode cX7_column 10 = .ok (.ireturn, 1) := by decide +kernel
theorem dX7_column_11 : decode cX7_column 11 = .ok (.aload_n 0, 1) := by decide +kernel
theorem dX7_column_12 : decode cX7_column 12 = .ok (.iconst 0, 1) := by decide +kernel
theorem dX7_column_13 : decode cX7_column 13 = .ok (.invokevirtual 218, 3) := by decide +kernel
theorem dX7_column_16 : decode cX7_column 16 = .ok (.istore_n 2, 1) := by decide +kernel
theorem dX7_column_17 : decode cX7_column 17 = .ok (.iconst 1, 1) := by decide +kernel
theorem dX7_column_18 : decode cX7_column 18 = .ok (.istore_n 3, 1) := by decide +kernel
theorem dX7_column_19 : decode cX7_column 19 = .ok (.iload_n 3, 1) := by decide +kernel
theorem dX7_column_20 : decode cX7_column 20 = .ok (.bipush 8, 2) := by decide +kernel
theorem dX7_column_22 : decode cX7_column 22 = .ok (.if_icmp .ge 38, 3) := by decide +kernel
theorem dX7_column_25 : decode cX7_column 25 = .ok (.aload_n 0, 1) := by decide +kernel
theorem dX7_column_26 : decode cX7_column 26 = .ok (.iload_n 3, 1) := by decide +kernel
theorem dX7_column_27 : decode cX7_column 27 = .ok (.invokevirtual 218, 3) := by decide +kernel
theorem dX7_column_30 : decode cX7_column 30 = .ok (.istore 4, 2) := by decide +kernel
theorem dX7_column_32 : decode cX7_column 32 = .ok (.iload_n 1, 1) := by decide +kernel
theorem dX7_column_33 : decode cX7_column 33 = .ok (.ifCond .ne 12, 3) := by decide +kernel
theorem dX7_column_36 : decode cX7_column 36 = .ok (.iload 4, 2) := by decide +kernel
theorem dX7_column_38 : decode cX7_column 38 = .ok (.iload_n 2, 1) := by decide +kernel
theorem dX7_column_39 : decode cX7_column 39 = .ok (.if_icmp .le 15, 3) := by decide +kernel
theorem dX7_column_42 : decode cX7_column 42 = .ok (.goto 9, 3) := by decide +kernel
theorem dX7_column_45 : decode cX7_column 45 = .ok (.iload 4, 2) := by decide +kernel
theorem dX7_column_47 : decode cX7_column 47 = .ok (.iload_n 2, 1) := by decide +kernel
theorem dX7_column_48 : decode cX7_column 48 = .ok (.if_icmp .ge 6, 3) := by decide +kernel
theorem dX7_column_51 : decode cX7_column 51 = .ok (.iload 4, 2) := by decide +kernel
theorem dX7_column_53 : decode cX7_column 53 = .ok (.istore_n 2, 1) := by decide +kernel
theorem dX7_column_54 : decode cX7_column 54 = .ok (.iinc 3 1, 3) := by decide +kernel
theorem dX7_column_57 : decode cX7_column 57 = .ok (.goto (-38), 3) := by decide +kernel
theorem dX7_column_60 : decode cX7_column 60 = .ok (.iload_n 2, 1) := by decide +kernel
theorem dX7_column_61 : decode cX7_column 61 = .ok (.ireturn, 1) := by decide +kernel
set_option maxRecDepth 20000 in
theorem ggX7_row_X7_mark : GoodIn wsX7_row wsX7_mark := goodIn_r _ [5, 6, 7, 8, 9, 4, 10, 11, 12, 13, 14, 15, 16, 17, 18, 19, 20, 21, 22, 23, 24, 25, 26, 27, 28, 29, 30, 31, 32, 33, 34, 35, 36, 37, 38, 39, 40, 41, 42, 43, 44, 45, 46, 47, 48, 49, 50, 51, 52, 53, 54, 55, 56, 57, 58, 59, 60, 61, 62, 63, 64, 65] (by decide +kernel) (by decide +kernel)
set_option maxRecDepth 20000 in
theorem gX7_row_X7_mark : GoodIn wsX7_row (wsV RX7 221 RX7 yX7_mark wsX7_mark) := goodIn_app (goodIn_of _ (by decide +kernel)) ggX7_row_X7_mark
theorem dX7_row_0 : decode cX7_row 0 = .ok (.iload_n 1, 1) := by decide +kernel
theorem dX7_row_1 : decode cX7_row 1 = .ok (.ifCond .lt 8, 3) := by decide +kernel
theorem dX7_row_4 : decode cX7_row 4 = .ok (.iload_n 1, 1) := by decide +kernel
theorem dX7_row_5 : decode cX7_row 5 = .ok (.iconst 1, 1) := by decide +kernel
theorem dX7_row_6 : decode cX7_row 6 = .ok (.if_icmp .le 5, 3) := by decide +kernel
theorem dX7_row_9 : decode cX7_row 9 = .ok (.lconst 0, 1) := by decide +kernel
theorem dX7_row_10 : decode cX7_row 10 = .ok (.lreturn, 1) := by decide +kernel
theorem dX7_row_11 : decode cX7_row 11 = .ok (.aload_n 0, 1) := by decide +kernel
theorem dX7_row_12 : decode cX7_row 12 = .ok (.iconst 0, 1) := by decide +kernel
theorem dX7_row_13 : decode cX7_row 13 = .ok (.invokevirtual 221, 3) := by decide +kernel
theorem dX7_row_16 : decode cX7_row 16 = .ok (.lstore_n 2, 1) := by decide +kernel
theorem dX7_row_17 : decode cX7_row 17 = .ok (.iconst 1, 1) := by decide +kernel
theorem dX7_row_18 : decode cX7_row 18 = .ok (.istore 4, 2) := by decide +kernel
theorem dX7_row_20 : decode cX7_row 20 = .ok (.iload 4, 2) := by decide +kernel
theorem dX7_row_22 : decode cX7_row 22 = .ok (.bipush 8, 2) := by decide +kernel
theorem dX7_row_24 : decode cX7_row 24 = .ok (.if_icmp .ge 41, 3) := by decide +kernel
theorem dX7_row_27 : decode cX7_row 27 = .ok (.aload_n 0, 1) := by decide +kernel
theorem dX7_row_28 : decode cX7_row 28 = .ok (.iload 4, 2) := by decide +kernel
theorem dX7_row_30 : decode cX7_row 30 = .ok (.invokevirtual 221, 3) := by decide +kernel
theorem dX7_row_33 : decode cX7_row 33 = .ok (.lstore 5, 2) := by decide +kernel
theorem dX7_row_35 : decode cX7_row 35 = .ok (.iload_n 1, 1) := by decide +kernel
theorem dX7_row_36 : decode cX7_row 36 = .ok (.ifCond .ne 13, 3) := by decide +kernel
theorem dX7_row_39 : decode cX7_row 39 = .ok (.lload 5, 2) := by decide +kernel
theorem dX7_row_41 : decode cX7_row 41 = .ok (.lload_n 2, 1) := by decide +kernel
theorem dX7_row_42 : decode cX7_row 42 = .ok (.lcmp, 1) := by decide +kernel
theorem dX7_row_43 : decode cX7_row 43 = .ok (.ifCond .le 16, 3) := by decide +kernel
theorem dX7_row_46 : decode cX7_row 46 = .ok (.goto 10, 3) := by decide +kernel
theorem dX7_row_49 : decode cX7_row 49 = .ok (.lload 5, 2) := by decide +kernel
theorem dX7_row_51 : decode cX7_row 51 = .ok (.lload_n 2, 1) := by decide +kernel
theorem dX7_row_52 : decode cX7_row 52 = .ok (.lcmp, 1) := by decide +kernel
theorem dX7_row_53 : decode cX7_row 53 = .ok (.ifCond .ge 6, 3) := by decide +kernel
theorem dX7_row_56 : decode cX7_row 56 = .ok (.lload 5, 2) := by decide +kernel
theorem dX7_row_58 : decode cX7_row 58 = .ok (.lstore_n 2, 1) := by decide +kernel
theorem dX7_row_59 : decode cX7_row 59 = .ok (.iinc 4 1, 3) := by decide +kernel
theorem dX7_row_62 : decode cX7_row 62 = .ok (.goto (-42), 3) := by decide +kernel
theorem dX7_row_65 : decode cX7_row 65 = .ok (.lload_n 2, 1) := by decide +kernel
theorem dX7_row_66 : decode cX7_row 66 = .ok (.lreturn, 1) := by decide +kernel
theorem dX7_count_0 : decode cX7_count 0 = .ok (.iload_n 1, 1) := by decide +kernel
theorem dX7_count_1 : decode cX7_count 1 = .ok (.ifCond .ne 10, 3) := by decide +kernel
theorem dX7_count_4 : decode cX7_count 4 = .ok (.aload_n 0, 1) := by decide +kernel
theorem dX7_count_5 : decode cX7_count 5 = .ok (.getfield 122, 3) := by decide +kernel
theorem dX7_count_8 : decode cX7_count 8 = .ok (.goto 40, 3) := by decide +kernel
theorem dX7_count_11 : decode cX7_count 11 = .ok (.iload_n 1, 1) := by decide +kernel
theorem dX7_count_12 : decode cX7_count 12 = .ok (.iconst 1, 1) := by decide +kernel
theorem dX7_count_13 : decode cX7_count 13 = .ok (.if_icmp .ne 10, 3) := by decide +kernel
theorem dX7_count_16 : decode cX7_count 16 = .ok (.aload_n 0, 1) := by decide +kernel
theorem dX7_count_17 : decode cX7_count 17 = .ok (.getfield 119, 3) := by decide +kernel
theorem dX7_count_20 : decode cX7_count 20 = .ok (.goto 28, 3) := by decide +kernel
theorem dX7_count_23 : decode cX7_count 23 = .ok (.iload_n 1, 1) := by decide +kernel
theorem dX7_count_24 : decode cX7_count 24 = .ok (.iconst 2, 1) := by decide +kernel
theorem dX7_count_25 : decode cX7_count 25 = .ok (.if_icmp .ne 10, 3) := by decide +kernel
theorem dX7_count_28 : decode cX7_count 28 = .ok (.aload_n 0, 1) := by decide +kernel
theorem dX7_count_29 : decode cX7_count 29 = .ok (.getfield 163, 3) := by decide +kernel
theorem dX7_count_32 : decode cX7_count 32 = .ok (.goto 16, 3) := by decide +kernel
theorem dX7_count_35 : decode cX7_count 35 = .ok (.iload_n 1, 1) := by decide +kernel
theorem dX7_count_36 : decode cX7_count 36 = .ok (.iconst 3, 1) := by decide +kernel
theorem dX7_count_37 : decode cX7_count 37 = .ok (.if_icmp .ne 10, 3) := by decide +kernel
theorem dX7_count_40 : decode cX7_count 40 = .ok (.aload_n 0, 1) := by decide +kernel
theorem dX7_count_41 : decode cX7_count 41 = .ok (.getfield 139, 3) := by decide +kernel
theorem dX7_count_44 : decode cX7_count 44 = .ok (.goto 4, 3) := by decide +kernel
theorem dX7_count_47 : decode cX7_count 47 = .ok (.iconst (-1), 1) := by decide +kernel
theorem dX7_count_48 : decode cX7_count 48 = .ok (.ireturn, 1) := by decide +kernel
theorem dJxe99ae_isNaN_b9ae7_0 : decode cJxe99ae_isNaN_b9ae7 0 = .ok (.dload_n 0, 1) := by decide +kernel
theorem dJxe99ae_isNaN_b9ae7_1 : decode cJxe99ae_isNaN_b9ae7 1 = .ok (.dload_n 0, 1) := by decide +kernel
theorem dJxe99ae_isNaN_b9ae7_2 : decode cJxe99ae_isNaN_b9ae7 2 = .ok (.dcmp .l, 1) := by decide +kernel
theorem dJxe99ae_isNaN_b9ae7_3 : decode cJxe99ae_isNaN_b9ae7 3 = .ok (.ifCond .eq 7, 3) := by decide +kernel
theorem dJxe99ae_isNaN_b9ae7_6 : decode cJxe99ae_isNaN_b9ae7 6 = .ok (.iconst 1, 1) := by decide +kernel
theorem dJxe99ae_isNaN_b9ae7_7 : decode cJxe99ae_isNaN_b9ae7 7 = .ok (.goto 4, 3) := by decide +kernel
theorem dJxe99ae_isNaN_b9ae7_10 : decode cJxe99ae_isNaN_b9ae7 10 = .ok (.iconst 0, 1) := by decide +kernel
theorem dJxe99ae_isNaN_b9ae7_11 : decode cJxe99ae_isNaN_b9ae7 11 = .ok (.ireturn, 1) := by decide +kernel
set_option maxRecDepth 20000 in
theorem ggJxe99ae_doubleToLongBits_ccdee_Jxe99ae_isNaN_b9ae7 : GoodIn wsJxe99ae_doubleToLongBits_ccdee wsJxe99ae_isNaN_b9ae7 := goodIn_r _ [9] (by decide +kernel) (by decide +kernel)
set_option maxRecDepth 20000 in
theorem gJxe99ae_doubleToLongBits_ccdee_Jxe99ae_isNaN_b9ae7 : GoodIn wsJxe99ae_doubleToLongBits_ccdee (va_wsS RJxe99ae 122 yJxe99ae_isNaN_b9ae7 wsJxe99ae_isNaN_b9ae7) := goodIn_app (goodIn_of _ (by decide +kernel)) ggJxe99ae_doubleToLongBits_ccdee_Jxe99ae_isNaN_b9ae7
theorem dJxe99ae_doubleToLongBits_ccdee_0 : decode cJxe99ae_doubleToLongBits_ccdee 0 = .ok (.dload_n 0, 1) := by decide +kernel
theorem dJxe99ae_doubleToLongBits_ccdee_1 : decode cJxe99ae_doubleToLongBits_ccdee 1 = .ok (.invokestatic 122, 3) := by decide +kernel
theorem dJxe99ae_doubleToLongBits_ccdee_4 : decode cJxe99ae_doubleToLongBits_ccdee 4 = .ok (.ifCond .ne 8, 3) := by decide +kernel
theorem dJxe99ae_doubleToLongBits_ccdee_7 : decode cJxe99ae_doubleToLongBits_ccdee 7 = .ok (.dload_n 0, 1) := by decide +kernel
theorem dJxe99ae_doubleToLongBits_ccdee_8 : decode cJxe99ae_doubleToLongBits_ccdee 8 = .ok (.invokestatic 134, 3) := by decide +kernel
theorem dJxe99ae_doubleToLongBits_ccdee_11 : decode cJxe99ae_doubleToLongBits_ccdee 11 = .ok (.lreturn, 1) := by decide +kernel
theorem dJxe99ae_doubleToLongBits_ccdee_12 : decode cJxe99ae_doubleToLongBits_ccdee 12 = .ok (.ldc2_w 137, 3) := by decide +kernel
theorem dJxe99ae_doubleToLongBits_ccdee_15 : decode cJxe99ae_doubleToLongBits_ccdee 15 = .ok (.lreturn, 1) := by decide +kernel
theorem dJxf58ca_isNaN_12338_0 : decode cJxf58ca_isNaN_12338 0 = .ok (.fload_n 0, 1) := by decide +kernel
theorem dJxf58ca_isNaN_12338_1 : decode cJxf58ca_isNaN_12338 1 = .ok (.fload_n 0, 1) := by decide +kernel
theorem dJxf58ca_isNaN_12338_2 : decode cJxf58ca_isNaN_12338 2 = .ok (.fcmp .l, 1) := by decide +kernel
theorem dJxf58ca_isNaN_12338_3 : decode cJxf58ca_isNaN_12338 3 = .ok (.ifCond .eq 7, 3) := by decide +kernel
theorem dJxf58ca_isNaN_12338_6 : decode cJxf58ca_isNaN_12338 6 = .ok (.iconst 1, 1) := by decide +kernel
theorem dJxf58ca_isNaN_12338_7 : decode cJxf58ca_isNaN_12338 7 = .ok (.goto 4, 3) := by decide +kernel
theorem dJxf58ca_isNaN_12338_10 : decode cJxf58ca_isNaN_12338 10 = .ok (.iconst 0, 1) := by decide +kernel
theorem dJxf58ca_isNaN_12338_11 : decode cJxf58ca_isNaN_12338 11 = .ok (.ireturn, 1) := by decide +kernel
set_option maxRecDepth 20000 in
theorem ggJxf58ca_floatToIntBits_5c35a_Jxf58ca_isNaN_12338 : GoodIn wsJxf58ca_floatToIntBits_5c35a wsJxf58ca_isNaN_12338 := goodIn_r _ [9] (by decide +kernel) (by decide +kernel)
set_option maxRecDepth 20000 in
theorem gJxf58ca_floatToIntBits_5c35a_Jxf58ca_isNaN_12338 : GoodIn wsJxf58ca_floatToIntBits_5c35a (va_wsS RJxf58ca 59 yJxf58ca_isNaN_12338 wsJxf58ca_isNaN_12338) := goodIn_app (goodIn_of _ (by decide +kernel)) ggJxf58ca_floatToIntBits_5c35a_Jxf58ca_isNaN_12338
theorem dJxf58ca_floatToIntBits_5c35a_0 : decode cJxf58ca_floatToIntBits_5c35a 0 = .ok (.fload_n 0, 1) := by decide +kernel
theorem dJxf58ca_floatToIntBits_5c35a_1 : decode cJxf58ca_floatToIntBits_5c35a 1 = .ok (.invokestatic 59, 3) := by decide +kernel
theorem dJxf58ca_floatToIntBits_5c35a_4 : decode cJxf58ca_floatToIntBits_5c35a 4 = .ok (.ifCond .ne 8, 3) := by decide +kernel
theorem dJxf58ca_floatToIntBits_5c35a_7 : decode cJxf58ca_floatToIntBits_5c35a 7 = .ok (.fload_n 0, 1) := by decide +kernel
theorem dJxf58ca_floatToIntBits_5c35a_8 : decode cJxf58ca_floatToIntBits_5c35a 8 = .ok (.invokestatic 74, 3) := by decide +kernel
theorem dJxf58ca_floatToIntBits_5c35a_11 : decode cJxf58ca_floatToIntBits_5c35a 11 = .ok (.ireturn, 1) := by decide +kernel
theorem dJxf58ca_floatToIntBits_5c35a_12 : decode cJxf58ca_floatToIntBits_5c35a 12 = .ok (.ldc 77, 2) := by decide +kernel
theorem dJxf58ca_floatToIntBits_5c35a_14 : decode cJxf58ca_floatToIntBits_5c35a 14 = .ok (.ireturn, 1) := by decide +kernel
theorem dJ9_abs_0f7a4_0 : decode cJ9_abs_0f7a4 0 = .ok (.iload_n 0, 1) := by decide +kernel
theorem dJ9_abs_0f7a4_1 : decode cJ9_abs_0f7a4 1 = .ok (.ifCond .ge 8, 3) := by decide +kernel
theorem dJ9_abs_0f7a4_4 : decode cJ9_abs_0f7a4 4 = .ok (.iload_n 0, 1) := by decide +kernel
theorem dJ9_abs_0f7a4_5 : decode cJ9_abs_0f7a4 5 = .ok (.ineg, 1) := by decide +kernel
theorem dJ9_abs_0f7a4_6 : decode cJ9_abs_0f7a4 6 = .ok (.goto 4, 3) := by decide +kernel
theorem dJ9_abs_0f7a4_9 : decode cJ9_abs_0f7a4 9 = .ok (.iload_n 0, 1) := by decide +kernel
theorem dJ9_abs_0f7a4_10 : decode cJ9_abs_0f7a4 10 = .ok (.ireturn, 1) := by decide +kernel
theorem dJ9_abs_067f4_0 : decode cJ9_abs_067f4 0 = .ok (.lload_n 0, 1) := by decide +kernel
theorem dJ9_abs_067f4_1 : decode cJ9_abs_067f4 1 = .ok (.lconst 0, 1) := by decide +kernel
theorem dJ9_abs_067f4_2 : decode cJ9_abs_067f4 2 = .ok (.lcmp, 1) := by decide +kernel
theorem dJ9_abs_067f4_3 : decode cJ9_abs_067f4 3 = .ok (.ifCond .ge 8, 3) := by decide +kernel
theorem dJ9_abs_067f4_6 : decode cJ9_abs_067f4 6 = .ok (.lload_n 0, 1) := by decide +kernel
theorem dJ9_abs_067f4_7 : decode cJ9_abs_067f4 7 = .ok (.lneg, 1) := by decide +kernel
theorem dJ9_abs_067f4_8 : decode cJ9_abs_067f4 8 = .ok (.goto 4, 3) := by decide +kernel
theorem dJ9_abs_067f4_11 : decode cJ9_abs_067f4 11 = .ok (.lload_n 0, 1) := by decide +kernel
theorem dJ9_abs_067f4_12 : decode cJ9_abs_067f4 12 = .ok (.lreturn, 1) := by decide +kernel
set_option maxRecDepth 20000 in
theorem ggL_law_X6_init : GoodIn wsL_law wsX6_init := goodIn_r _ [9, 10, 11, 12, 13, 14, 15, 16, 17, 18, 19, 20, 21, 22, 23, 24, 25, 26, 27, 28, 29, 30, 31, 32, 33, 34, 35, 36, 37, 38, 39, 40, 41, 42, 43, 674, 675, 676, 677, 678, 650, 651, 652, 653, 654, 655, 656, 679, 680, 681, 682, 683] (by decide +kernel) (by decide +kernel)
set_option maxRecDepth 20000 in
theorem gL_law_X6_init : GoodIn wsL_law (wsX6_init) := ggL_law_X6_init
set_option maxRecDepth 20000 in
theorem ggL_law_X7_init : GoodIn wsL_law wsX7_init := goodIn_r _ [46, 47, 11, 12, 22, 48, 40, 49, 50, 51, 52, 53, 54, 55, 56, 57, 58, 59, 60, 61, 62, 63, 64, 65, 66, 67, 657, 658, 659, 660, 661, 662, 663, 664, 665, 666, 667, 668, 669, 670, 671, 672, 673] (by decide +kernel) (by decide +kernel)
set_option maxRecDepth 20000 in
theorem gL_law_X7_init : GoodIn wsL_law (wsX7_init) := ggL_law_X7_init
set_option maxRecDepth 20000 in
theorem ggL_law_X6_place : GoodIn wsL_law wsX6_place := goodIn_r _ [71, 72, 73, 74, 75, 76, 77, 78, 79, 80, 81, 82, 83, 84, 85, 86, 87, 88, 89, 90, 91, 92, 93, 94, 95, 96, 97, 98, 99, 100, 101, 102, 103, 104, 105, 106, 107, 108, 109, 110, 111, 112, 113, 114, 115, 116, 117, 2, 118, 119, 120, 121, 122, 123, 124, 125, 126, 127, 128, 129, 130, 131, 132, 133, 134, 16, 17, 135, 136, 137, 138, 15, 139, 33, 31, 140, 141, 142, 143, 144, 145, 146, 147, 148, 149, 150, 151, 152, 21, 153, 154, 155, 20, 156, 41, 157, 42, 43, 158, 159, 160, 161, 162, 163, 650, 651, 652, 653, 654, 655, 656, 674, 675, 676, 677, 678, 679, 680, 681, 682, 683] (by decide +kernel) (by decide +kernel)
set_option maxRecDepth 20000 in
theorem gL_law_X6_place : GoodIn wsL_law (wsV RL 15 RX6 yX6_place wsX6_place) := goodIn_app (goodIn_of _ (by decide +kernel)) ggL_law_X6_place
set_option maxRecDepth 20000 in
theorem ggL_law_X7_place : GoodIn wsL_law wsX7_place := goodIn_r _ [167, 168, 169, 5, 170, 171, 172, 173, 174, 175, 176, 177, 178, 52, 179, 180, 181, 182, 183, 184, 185, 58, 186, 187, 188, 189, 190, 191, 192, 193, 194, 195, 196, 197, 198, 199, 200, 48, 49, 201, 202, 203, 204, 53, 51, 205, 206, 207, 208, 209, 210, 211, 212, 213, 214, 215, 216, 217, 218, 59, 57, 219, 220, 221, 222, 223, 224, 225, 226, 227, 228, 229, 230, 231, 65, 232, 66, 67, 233, 234, 235, 236, 237, 657, 658, 659, 660, 661, 662, 663, 664, 665, 666, 667, 668, 669, 670, 671, 672, 673] (by decide +kernel) (by decide +kernel)
set_option maxRecDepth 20000 in
theorem gL_law_X7_place : GoodIn wsL_law (wsV RL 19 RX7 yX7_place wsX7_place) := goodIn_app (goodIn_of _ (by decide +kernel)) ggL_law_X7_place
set_option maxRecDepth 20000 in
theorem ggL_law_X6_walls : GoodIn wsL_law wsX6_walls := goodIn_r _ [241, 16, 242, 243, 244, 2, 245, 135, 21, 124, 125, 85, 126, 127, 87, 119, 120, 121, 122, 123, 246, 247, 248, 249, 250, 251, 252, 253, 254, 129, 130, 89, 90, 91, 92, 93, 113, 114, 115, 97, 98, 99, 100, 101, 102, 103, 104, 105, 106, 107, 108, 109, 255, 256, 257, 15, 258, 31, 33, 29, 259, 137, 138, 139, 140, 141, 142, 143, 144, 145, 146, 147, 148, 260, 261, 262, 20, 263, 158, 159, 160, 161, 162, 163, 650, 651, 652, 653, 654, 655, 656, 674, 675, 676, 677, 678, 679, 680, 681, 682, 683] (by decide +kernel) (by decide +kernel)
set_option maxRecDepth 20000 in
theorem gL_law_X6_walls : GoodIn wsL_law (wsV RL 20 RX6 yX6_walls wsX6_walls) := goodIn_app (goodIn_of _ (by decide +kernel)) ggL_law_X6_walls
set_option maxRecDepth 20000 in
theorem ggL_law_X7_walls : GoodIn wsL_law wsX7_walls := goodIn_r _ [267, 51, 53, 48, 200, 232, 176, 177, 5, 178, 52, 179, 180, 181, 182, 171, 172, 173, 174, 175, 268, 269, 270, 208, 209, 210, 211, 201, 202, 203, 204, 205, 206, 207, 212, 213, 214, 233, 234, 235, 236, 237, 657, 658, 659, 660, 661, 662, 663, 664, 665, 666, 667, 668, 669, 670, 671, 672, 673] (by decide +kernel) (by decide +kernel)
set_option maxRecDepth 20000 in
theorem gL_law_X7_walls : GoodIn wsL_law (wsV RL 24 RX7 yX7_walls wsX7_walls) := goodIn_app (goodIn_of _ (by decide +kernel)) ggL_law_X7_walls
set_option maxRecDepth 20000 in
theorem ggL_law_X6_rails : GoodIn wsL_law wsX6_rails := goodIn_r _ [274, 17, 72, 73, 74, 75, 76, 77, 78, 79, 80, 81, 82, 83, 84, 85, 86, 87, 88, 89, 90, 91, 92, 93, 94, 95, 96, 97, 98, 99, 100, 101, 102, 103, 104, 105, 106, 107, 108, 109, 110, 111, 112, 113, 114, 115, 242, 243, 244, 2, 245, 135, 21, 124, 125, 126, 127, 119, 120, 121, 122, 123, 246, 247, 248, 249, 250, 251, 252, 253, 254, 129, 130, 255, 256, 257, 15, 258, 31, 33, 29, 259, 137, 138, 139, 140, 141, 142, 143, 144, 145, 146, 147, 148, 260, 261, 262, 20, 263, 158, 159, 160, 161, 162, 163, 650, 651, 652, 653, 654, 655, 656, 674, 675, 676, 677, 678, 679, 680, 681, 682, 683] (by decide +kernel) (by decide +kernel)
set_option maxRecDepth 20000 in
theorem gL_law_X6_rails : GoodIn wsL_law (wsV RL 25 RX6 yX6_rails wsX6_rails) := goodIn_app (goodIn_of _ (by decide +kernel)) ggL_law_X6_rails
set_option maxRecDepth 20000 in
theorem ggL_law_X7_rails : GoodIn wsL_law wsX7_rails := goodIn_r _ [278, 57, 59, 49, 200, 232, 183, 184, 5, 185, 58, 186, 187, 188, 189, 171, 172, 173, 174, 175, 279, 280, 281, 222, 223, 224, 215, 216, 217, 218, 219, 220, 221, 225, 226, 227, 233, 234, 235, 236, 237, 657, 658, 659, 660, 661, 662, 663, 664, 665, 666, 667, 668, 669, 670, 671, 672, 673] (by decide +kernel) (by decide +kernel)
set_option maxRecDepth 20000 in
theorem gL_law_X7_rails : GoodIn wsL_law (wsV RL 29 RX7 yX7_rails wsX7_rails) := goodIn_app (goodIn_of _ (by decide +kernel)) ggL_law_X7_rails
set_option maxRecDepth 20000 in
theorem ggL_law_X6_steps : GoodIn wsL_law wsX6_steps := goodIn_r _ [285, 16, 17, 72, 73, 74, 75, 76, 77, 78, 79, 80, 81, 82, 83, 84, 85, 86, 87, 88, 89, 90, 91, 92, 93, 94, 95, 96, 97, 98, 99, 100, 101, 102, 103, 104, 105, 106, 107, 108, 109, 110, 111, 112, 113, 114, 115, 124, 125, 126, 127, 119, 120, 121, 2, 122, 123, 128, 129, 130, 286, 287, 288, 159, 160, 161, 162, 163, 650, 651, 652, 653, 654, 655, 656, 674, 675, 676, 677, 678] (by decide +kernel) (by decide +kernel)
set_option maxRecDepth 20000 in
theorem gL_law_X6_steps : GoodIn wsL_law (wsV RL 30 RX6 yX6_steps wsX6_steps) := goodIn_app (goodIn_of _ (by decide +kernel)) ggL_law_X6_steps
set_option maxRecDepth 20000 in
theorem ggL_law_X7_steps : GoodIn wsL_law wsX7_steps := goodIn_r _ [292, 55, 61, 176, 177, 5, 178, 52, 179, 180, 181, 182, 183, 184, 185, 58, 186, 187, 188, 189, 171, 172, 173, 174, 175, 190, 191, 192, 193, 194, 195, 268, 269, 270, 208, 209, 210, 211, 279, 280, 281, 222, 223, 224, 233, 234, 235, 236, 237, 657, 658, 659, 660, 661, 662, 663, 664, 665, 666, 667, 668, 669, 670, 671, 672, 673] (by decide +kernel) (by decide +kernel)
set_option maxRecDepth 20000 in
theorem gL_law_X7_steps : GoodIn wsL_law (wsV RL 34 RX7 yX7_steps wsX7_steps) := goodIn_app (goodIn_of _ (by decide +kernel)) ggL_law_X7_steps
set_option maxRecDepth 20000 in
theorem ggL_law_X6_move : GoodIn wsL_law wsX6_move := goodIn_r _ [296, 16, 17, 72, 73, 74, 75, 76, 77, 78, 79, 80, 81, 82, 83, 84, 85, 86, 87, 88, 89, 90, 91, 92, 93, 94, 95, 96, 97, 98, 99, 100, 101, 102, 103, 104, 105, 106, 107, 108, 109, 110, 111, 112, 113, 114, 115, 116, 117, 2, 118, 119, 120, 121, 122, 123, 124, 125, 126, 127, 297, 298, 299, 15, 300, 36, 301, 302, 247, 248, 249, 250, 251, 252, 253, 254, 129, 130, 303, 304, 305, 306, 307, 131, 132, 133, 134, 135, 136, 137, 138, 139, 33, 31, 140, 141, 142, 143, 144, 145, 146, 147, 148, 128, 149, 150, 151, 152, 21, 153, 154, 155, 20, 156, 41, 157, 42, 43, 158, 159, 160, 161, 162, 163, 650, 651, 652, 653, 654, 655, 656, 674, 675, 676, 677, 678, 679, 680, 681, 682, 683] (by decide +kernel) (by decide +kernel)
set_option maxRecDepth 20000 in
theorem gL_law_X6_move : GoodIn wsL_law (wsV RL 35 RX6 yX6_move wsX6_move) := goodIn_app (goodIn_of _ (by decide +kernel)) ggL_law_X6_move
set_option maxRecDepth 20000 in
theorem ggL_law_X7_move : GoodIn wsL_law wsX7_move := goodIn_r _ [311, 48, 49, 168, 169, 5, 170, 171, 172, 173, 174, 175, 176, 177, 178, 52, 179, 180, 181, 182, 183, 184, 185, 58, 186, 187, 188, 189, 312, 313, 314, 315, 316, 317, 318, 319, 320, 321, 322, 323, 324, 325, 326, 327, 328, 329, 330, 331, 332, 333, 334, 335, 336, 337, 338, 339, 340, 341, 342, 343, 344, 345, 346, 347, 348, 349, 350, 351, 352, 353, 196, 197, 198, 199, 200, 201, 202, 203, 204, 53, 51, 205, 206, 207, 208, 209, 210, 211, 212, 213, 214, 215, 216, 217, 218, 59, 57, 219, 220, 221, 222, 223, 224, 225, 226, 227, 190, 191, 192, 193, 194, 195, 228, 229, 230, 231, 65, 232, 66, 67, 233, 234, 235, 236, 237, 657, 658, 659, 660, 661, 662, 663, 664, 665, 666, 667, 668, 669, 670, 671, 672, 673] (by decide +kernel) (by decide +kernel)
set_option maxRecDepth 20000 in
theorem gL_law_X7_move : GoodIn wsL_law (wsV RL 38 RX7 yX7_move wsX7_move) := goodIn_app (goodIn_of _ (by decide +kernel)) ggL_law_X7_move
set_option maxRecDepth 20000 in
theorem ggL_law_X6_snap : GoodIn wsL_law wsX6_snap := goodIn_r _ [357, 16, 17, 116, 117, 2, 118, 358, 359, 360, 361, 119, 120, 121, 122, 123, 362, 363, 364, 15, 365, 35, 36, 366, 367, 368, 369, 370, 250, 85, 251, 127, 252, 253, 254, 129, 130, 87, 89, 90, 91, 92, 93, 113, 114, 115, 97, 98, 99, 100, 101, 102, 103, 104, 105, 106, 107, 108, 109, 371, 84, 86, 88, 94, 95, 96, 110, 111, 112, 372, 373, 374, 306, 375, 376, 377, 378, 379, 380, 381, 382, 383, 384, 385, 386, 387, 131, 132, 133, 134, 135, 136, 137, 138, 139, 33, 31, 140, 141, 142, 143, 144, 145, 146, 147, 148, 128, 149, 150, 151, 152, 21, 153, 154, 155, 20, 156, 41, 157, 42, 43, 158, 159, 160, 161, 162, 163, 650, 651, 652, 653, 654, 655, 656, 674, 675, 676, 677, 678, 679, 680, 681, 682, 683] (by decide +kernel) (by decide +kernel)
set_option maxRecDepth 20000 in
theorem gL_law_X6_snap : GoodIn wsL_law (wsV RL 39 RX6 yX6_snap wsX6_snap) := goodIn_app (goodIn_of _ (by decide +kernel)) ggL_law_X6_snap
set_option maxRecDepth 20000 in
theorem ggL_law_X7_snap : GoodIn wsL_law wsX7_snap := goodIn_r _ [391, 48, 55, 49, 61, 168, 169, 5, 170, 171, 172, 173, 174, 175, 312, 313, 314, 315, 316, 317, 318, 319, 320, 321, 322, 323, 324, 325, 326, 327, 328, 329, 330, 331, 332, 392, 393, 394, 395, 396, 54, 397, 179, 180, 181, 182, 398, 399, 400, 333, 334, 335, 336, 337, 338, 339, 340, 341, 342, 343, 344, 345, 346, 347, 348, 349, 350, 351, 352, 353, 401, 402, 403, 404, 405, 60, 186, 187, 188, 189, 196, 197, 198, 199, 200, 201, 202, 203, 204, 53, 51, 205, 206, 207, 208, 209, 210, 211, 212, 213, 214, 215, 216, 217, 218, 59, 57, 219, 220, 221, 222, 223, 224, 225, 226, 227, 190, 191, 192, 52, 193, 194, 195, 58, 228, 229, 230, 231, 65, 232, 66, 67, 233, 234, 235, 236, 237, 657, 658, 659, 660, 661, 662, 663, 664, 665, 666, 667, 668, 669, 670, 671, 672, 673] (by decide +kernel) (by decide +kernel)
set_option maxRecDepth 20000 in
theorem gL_law_X7_snap : GoodIn wsL_law (wsV RL 42 RX7 yX7_snap wsX7_snap) := goodIn_app (goodIn_of _ (by decide +kernel)) ggL_law_X7_snap
set_option maxRecDepth 20000 in
theorem ggL_law_X6_lean : GoodIn wsL_law wsX6_lean := goodIn_r _ [409, 16, 17, 116, 117, 2, 118, 119, 120, 121, 122, 123, 410, 373, 85, 374, 127, 306, 131, 132, 133, 134, 135, 136, 137, 138, 15, 139, 33, 31, 140, 141, 142, 143, 144, 145, 146, 147, 148, 128, 129, 130, 87, 149, 150, 151, 152, 21, 153, 154, 155, 20, 156, 41, 157, 42, 43, 158, 159, 160, 161, 162, 163, 650, 651, 652, 653, 654, 655, 656, 674, 675, 676, 677, 678, 679, 680, 681, 682, 683] (by decide +kernel) (by decide +kernel)
set_option maxRecDepth 20000 in
theorem gL_law_X6_lean : GoodIn wsL_law (wsV RL 43 RX6 yX6_lean wsX6_lean) := goodIn_app (goodIn_of _ (by decide +kernel)) ggL_law_X6_lean
set_option maxRecDepth 20000 in
theorem ggL_law_X7_lean : GoodIn wsL_law wsX7_lean := goodIn_r _ [414, 48, 395, 49, 404, 168, 169, 5, 170, 171, 172, 173, 174, 175, 179, 180, 181, 182, 186, 187, 188, 189, 196, 197, 198, 199, 200, 201, 202, 203, 204, 53, 51, 205, 206, 207, 208, 209, 210, 211, 212, 213, 214, 215, 216, 217, 218, 59, 57, 219, 220, 221, 222, 223, 224, 225, 226, 227, 190, 191, 192, 52, 193, 194, 195, 58, 228, 229, 230, 231, 65, 232, 66, 67, 233, 234, 235, 236, 237, 657, 658, 659, 660, 661, 662, 663, 664, 665, 666, 667, 668, 669, 670, 671, 672, 673] (by decide +kernel) (by decide +kernel)
set_option maxRecDepth 20000 in
theorem gL_law_X7_lean : GoodIn wsL_law (wsV RL 46 RX7 yX7_lean wsX7_lean) := goodIn_app (goodIn_of _ (by decide +kernel)) ggL_law_X7_lean
set_option maxRecDepth 20000 in
theorem ggL_law_X6_pull : GoodIn wsL_law wsX6_pull := goodIn_r _ [418, 16, 17, 116, 117, 2, 118, 419, 420, 421, 119, 120, 121, 122, 123, 422, 423, 85, 424, 425, 147, 148, 143, 144, 145, 127, 426, 141, 142, 149, 150, 151, 152, 21, 153, 154, 155, 20, 156, 41, 157, 42, 43, 158, 159, 160, 161, 162, 163, 650, 651, 652, 653, 654, 655, 656, 674, 675, 676, 677, 678, 679, 680, 681, 682, 683] (by decide +kernel) (by decide +kernel)
set_option maxRecDepth 20000 in
theorem gL_law_X6_pull : GoodIn wsL_law (wsV RL 47 RX6 yX6_pull wsX6_pull) := goodIn_app (goodIn_of _ (by decide +kernel)) ggL_law_X6_pull
set_option maxRecDepth 20000 in
theorem ggL_law_X7_pull : GoodIn wsL_law wsX7_pull := goodIn_r _ [430, 48, 49, 168, 169, 5, 170, 171, 172, 173, 174, 175, 228, 229, 230, 231, 65, 232, 66, 67, 212, 213, 214, 208, 209, 210, 211, 179, 180, 181, 182, 205, 206, 207, 225, 226, 227, 222, 223, 224, 186, 187, 188, 189, 219, 220, 221, 233, 234, 235, 236, 237, 657, 658, 659, 660, 661, 662, 663, 664, 665, 666, 667, 668, 669, 670, 671, 672, 673] (by decide +kernel) (by decide +kernel)
set_option maxRecDepth 20000 in
theorem gL_law_X7_pull : GoodIn wsL_law (wsV RL 51 RX7 yX7_pull wsX7_pull) := goodIn_app (goodIn_of _ (by decide +kernel)) ggL_law_X7_pull
set_option maxRecDepth 20000 in
theorem ggL_law_X6_swing : GoodIn wsL_law wsX6_swing := goodIn_r _ [434, 16, 17, 116, 117, 2, 118, 119, 120, 121, 122, 123, 124, 125, 85, 126, 127, 87, 128, 129, 130, 297, 298, 299, 15, 300, 36, 301, 302, 247, 248, 249, 250, 251, 252, 253, 254, 89, 90, 91, 92, 93, 113, 114, 115, 97, 98, 99, 100, 101, 102, 103, 104, 105, 106, 107, 108, 109, 303, 304, 305, 306, 307, 84, 86, 88, 94, 95, 96, 110, 111, 112, 435, 436, 437, 131, 132, 133, 134, 135, 136, 137, 138, 139, 33, 31, 140, 141, 142, 143, 144, 145, 146, 147, 148, 149, 150, 151, 152, 21, 153, 154, 155, 20, 156, 41, 157, 42, 43, 158, 159, 160, 161, 162, 163, 650, 651, 652, 653, 654, 655, 656, 674, 675, 676, 677, 678, 679, 680, 681, 682, 683] (by decide +kernel) (by decide +kernel)
set_option maxRecDepth 20000 in
theorem gL_law_X6_swing : GoodIn wsL_law (wsV RL 52 RX6 yX6_swing wsX6_swing) := goodIn_app (goodIn_of _ (by decide +kernel)) ggL_law_X6_swing
set_option maxRecDepth 20000 in
theorem ggL_law_X7_swing : GoodIn wsL_law wsX7_swing := goodIn_r _ [441, 48, 49, 404, 168, 169, 5, 170, 171, 172, 173, 174, 175, 176, 177, 178, 52, 179, 180, 181, 182, 190, 191, 192, 312, 313, 314, 315, 316, 317, 318, 319, 320, 321, 322, 323, 324, 325, 326, 327, 328, 329, 330, 331, 332, 196, 197, 198, 199, 200, 201, 202, 203, 204, 53, 51, 205, 206, 207, 208, 209, 210, 211, 212, 213, 214, 215, 216, 217, 218, 59, 57, 219, 220, 221, 222, 223, 224, 186, 187, 188, 189, 225, 226, 227, 193, 194, 195, 58, 228, 229, 230, 231, 65, 232, 66, 67, 233, 234, 235, 236, 237, 657, 658, 659, 660, 661, 662, 663, 664, 665, 666, 667, 668, 669, 670, 671, 672, 673] (by decide +kernel) (by decide +kernel)
set_option maxRecDepth 20000 in
theorem gL_law_X7_swing : GoodIn wsL_law (wsV RL 56 RX7 yX7_swing wsX7_swing) := goodIn_app (goodIn_of _ (by decide +kernel)) ggL_law_X7_swing
set_option maxRecDepth 20000 in
theorem ggL_law_X6_guide : GoodIn wsL_law wsX6_guide := goodIn_r _ [445, 23, 119, 120, 121, 2, 122, 123, 124, 125, 85, 126, 127, 87, 159, 160, 161, 162, 163, 650, 651, 652, 653, 654, 655, 656] (by decide +kernel) (by decide +kernel)
set_option maxRecDepth 20000 in
theorem gL_law_X6_guide : GoodIn wsL_law (wsV RL 57 RX6 yX6_guide wsX6_guide) := goodIn_app (goodIn_of _ (by decide +kernel)) ggL_law_X6_guide
set_option maxRecDepth 20000 in
theorem ggL_law_X7_guide : GoodIn wsL_law wsX7_guide := goodIn_r _ [449, 64, 62, 171, 172, 173, 5, 174, 175, 176, 177, 178, 52, 179, 180, 181, 182, 190, 191, 192, 233, 234, 235, 236, 237, 657, 658, 659, 660, 661, 662, 663, 664, 665, 666, 667, 668, 669, 670, 671, 672, 673] (by decide +kernel) (by decide +kernel)
set_option maxRecDepth 20000 in
theorem gL_law_X7_guide : GoodIn wsL_law (wsV RL 60 RX7 yX7_guide wsX7_guide) := goodIn_app (goodIn_of _ (by decide +kernel)) ggL_law_X7_guide
set_option maxRecDepth 20000 in
theorem ggL_law_X6_stick : GoodIn wsL_law wsX6_stick := goodIn_r _ [453, 16, 23, 17, 116, 117, 2, 118, 119, 120, 121, 122, 123, 124, 125, 85, 126, 127, 87, 246, 247, 248, 249, 250, 251, 252, 253, 254, 129, 130, 89, 90, 91, 92, 93, 113, 114, 115, 97, 98, 99, 100, 101, 102, 103, 104, 105, 106, 107, 108, 109, 454, 455, 456, 457, 128, 458, 459, 460, 15, 461, 36, 302, 131, 132, 133, 134, 135, 136, 137, 138, 139, 33, 31, 140, 141, 142, 143, 144, 145, 146, 147, 148, 149, 150, 151, 152, 21, 153, 154, 155, 20, 156, 41, 157, 42, 43, 158, 159, 160, 161, 162, 163, 650, 651, 652, 653, 654, 655, 656, 674, 675, 676, 677, 678, 679, 680, 681, 682, 683] (by decide +kernel) (by decide +kernel)
set_option maxRecDepth 20000 in
theorem gL_law_X6_stick : GoodIn wsL_law (wsV RL 61 RX6 yX6_stick wsX6_stick) := goodIn_app (goodIn_of _ (by decide +kernel)) ggL_law_X6_stick
set_option maxRecDepth 20000 in
theorem ggL_law_X7_stick : GoodIn wsL_law wsX7_stick := goodIn_r _ [465, 64, 48, 62, 49, 168, 169, 5, 170, 171, 172, 173, 174, 175, 176, 177, 178, 52, 179, 180, 181, 182, 268, 269, 270, 208, 209, 210, 211, 312, 313, 314, 315, 316, 317, 318, 319, 320, 321, 322, 323, 324, 325, 326, 327, 328, 329, 330, 331, 332, 196, 197, 198, 199, 200, 201, 202, 203, 204, 53, 51, 205, 206, 207, 212, 213, 214, 215, 216, 217, 218, 59, 57, 219, 220, 221, 222, 223, 224, 186, 187, 188, 189, 225, 226, 227, 190, 191, 192, 193, 194, 195, 58, 228, 229, 230, 231, 65, 232, 66, 67, 233, 234, 235, 236, 237, 657, 658, 659, 660, 661, 662, 663, 664, 665, 666, 667, 668, 669, 670, 671, 672, 673] (by decide +kernel) (by decide +kernel)
set_option maxRecDepth 20000 in
theorem gL_law_X7_stick : GoodIn wsL_law (wsV RL 64 RX7 yX7_stick wsX7_stick) := goodIn_app (goodIn_of _ (by decide +kernel)) ggL_law_X7_stick
set_option maxRecDepth 20000 in
theorem ggL_law_X6_undo : GoodIn wsL_law wsX6_undo := goodIn_r _ [469, 21, 16, 17, 470, 471, 472, 20, 473, 157, 158, 650, 651, 652, 653, 654, 655, 656, 679, 680, 681, 682, 683, 674, 675, 676, 677, 678] (by decide +kernel) (by decide +kernel)
set_option maxRecDepth 20000 in
theorem gL_law_X6_undo : GoodIn wsL_law (wsV RL 65 RX6 yX6_undo wsX6_undo) := goodIn_app (goodIn_of _ (by decide +kernel)) ggL_law_X6_undo
set_option maxRecDepth 20000 in
theorem ggL_law_X7_undo : GoodIn wsL_law wsX7_undo := goodIn_r _ [477, 232, 65, 48, 66, 49, 67, 657, 658, 659, 660, 661, 662, 663, 664, 665, 666, 667, 668, 669, 670, 671, 672, 673] (by decide +kernel) (by decide +kernel)
set_option maxRecDepth 20000 in
theorem gL_law_X7_undo : GoodIn wsL_law (wsV RL 69 RX7 yX7_undo wsX7_undo) := goodIn_app (goodIn_of _ (by decide +kernel)) ggL_law_X7_undo
set_option maxRecDepth 20000 in
theorem ggL_law_X6_x : GoodIn wsL_law wsX6_x := goodIn_r _ [481, 16, 116, 117, 2, 118, 650, 651, 652, 653, 654, 655, 656, 674, 675, 676, 677, 678] (by decide +kernel) (by decide +kernel)
set_option maxRecDepth 20000 in
theorem gL_law_X6_x : GoodIn wsL_law (wsV RL 70 RX6 yX6_x wsX6_x) := goodIn_app (goodIn_of _ (by decide +kernel)) ggL_law_X6_x
set_option maxRecDepth 20000 in
theorem ggL_law_X7_x : GoodIn wsL_law wsX7_x := goodIn_r _ [485, 48, 168, 169, 5, 170, 657, 658, 659, 660, 661, 662, 663, 664, 665, 666, 667, 668, 669, 670, 671, 672, 673] (by decide +kernel) (by decide +kernel)
set_option maxRecDepth 20000 in
theorem gL_law_X7_x : GoodIn wsL_law (wsV RL 74 RX7 yX7_x wsX7_x) := goodIn_app (goodIn_of _ (by decide +kernel)) ggL_law_X7_x
set_option maxRecDepth 20000 in
theorem ggL_law_X6_y : GoodIn wsL_law wsX6_y := goodIn_r _ [489, 17, 116, 117, 2, 118, 490, 491, 74, 492, 493, 494, 495, 496, 82, 497, 250, 85, 251, 127, 252, 253, 254, 129, 130, 87, 89, 90, 91, 92, 93, 113, 114, 115, 97, 98, 99, 100, 101, 102, 103, 104, 105, 106, 107, 108, 109, 650, 651, 652, 653, 654, 655, 656, 674, 675, 676, 677, 678] (by decide +kernel) (by decide +kernel)
set_option maxRecDepth 20000 in
theorem gL_law_X6_y : GoodIn wsL_law (wsV RL 75 RX6 yX6_y wsX6_y) := goodIn_app (goodIn_of _ (by decide +kernel)) ggL_law_X6_y
set_option maxRecDepth 20000 in
theorem ggL_law_X7_y : GoodIn wsL_law wsX7_y := goodIn_r _ [501, 49, 168, 169, 5, 170, 657, 658, 659, 660, 661, 662, 663, 664, 665, 666, 667, 668, 669, 670, 671, 672, 673] (by decide +kernel) (by decide +kernel)
set_option maxRecDepth 20000 in
theorem gL_law_X7_y : GoodIn wsL_law (wsV RL 79 RX7 yX7_y wsX7_y) := goodIn_app (goodIn_of _ (by decide +kernel)) ggL_law_X7_y
set_option maxRecDepth 20000 in
theorem ggL_law_X6_side : GoodIn wsL_law wsX6_side := goodIn_r _ [505, 16, 116, 117, 2, 118, 506, 507, 85, 508, 127, 509, 510, 373, 374, 306, 650, 651, 652, 653, 654, 655, 656, 674, 675, 676, 677, 678] (by decide +kernel) (by decide +kernel)
set_option maxRecDepth 20000 in
theorem gL_law_X6_side : GoodIn wsL_law (wsV RL 80 RX6 yX6_side wsX6_side) := goodIn_app (goodIn_of _ (by decide +kernel)) ggL_law_X6_side
set_option maxRecDepth 20000 in
theorem ggL_law_X7_side : GoodIn wsL_law wsX7_side := goodIn_r _ [514, 48, 54, 395, 168, 169, 5, 170, 179, 180, 181, 182, 657, 658, 659, 660, 661, 662, 663, 664, 665, 666, 667, 668, 669, 670, 671, 672, 673] (by decide +kernel) (by decide +kernel)
set_option maxRecDepth 20000 in
theorem gL_law_X7_side : GoodIn wsL_law (wsV RL 83 RX7 yX7_side wsX7_side) := goodIn_app (goodIn_of _ (by decide +kernel)) ggL_law_X7_side
set_option maxRecDepth 20000 in
theorem ggL_law_X6_lift : GoodIn wsL_law wsX6_lift := goodIn_r _ [518, 17, 116, 117, 2, 118, 506, 507, 85, 508, 127, 509, 510, 373, 374, 306, 490, 491, 74, 492, 493, 494, 495, 496, 82, 497, 250, 251, 252, 253, 254, 129, 130, 87, 89, 90, 91, 92, 93, 113, 114, 115, 97, 98, 99, 100, 101, 102, 103, 104, 105, 106, 107, 108, 109, 650, 651, 652, 653, 654, 655, 656, 674, 675, 676, 677, 678] (by decide +kernel) (by decide +kernel)
end
section
set_option maxRecDepth 20000 in
theorem gL_law_X6_lift : GoodIn wsL_law (wsV RL 84 RX6 yX6_lift wsX6_lift) := goodIn_app (goodIn_of _ (by decide +kernel)) ggL_law_X6_lift
set_option maxRecDepth 20000 in
theorem ggL_law_X7_lift : GoodIn wsL_law wsX7_lift := goodIn_r _ [522, 49, 60, 404, 168, 169, 5, 170, 186, 187, 188, 189, 657, 658, 659, 660, 661, 662, 663, 664, 665, 666, 667, 668, 669, 670, 671, 672, 673] (by decide +kernel) (by decide +kernel)
set_option maxRecDepth 20000 in
theorem gL_law_X7_lift : GoodIn wsL_law (wsV RL 87 RX7 yX7_lift wsX7_lift) := goodIn_app (goodIn_of _ (by decide +kernel)) ggL_law_X7_lift
set_option maxRecDepth 20000 in
theorem ggL_law_X6_far : GoodIn wsL_law wsX6_far := goodIn_r _ [526, 116, 117, 2, 118, 527, 528, 529, 530, 16, 17, 458, 459, 460, 15, 461, 36, 302, 247, 85, 248, 249, 250, 251, 127, 252, 253, 254, 129, 130, 87, 89, 90, 91, 92, 93, 113, 114, 115, 97, 98, 99, 100, 101, 102, 103, 104, 105, 106, 107, 108, 109, 531, 84, 86, 88, 94, 95, 96, 110, 111, 112, 650, 651, 652, 653, 654, 655, 656, 674, 675, 676, 677, 678] (by decide +kernel) (by decide +kernel)
set_option maxRecDepth 20000 in
theorem gL_law_X6_far : GoodIn wsL_law (wsV RL 88 RX6 yX6_far wsX6_far) := goodIn_app (goodIn_of _ (by decide +kernel)) ggL_law_X6_far
set_option maxRecDepth 20000 in
theorem ggL_law_X7_far : GoodIn wsL_law wsX7_far := goodIn_r _ [535, 48, 49, 168, 169, 5, 170, 312, 313, 314, 315, 316, 317, 318, 319, 320, 321, 322, 323, 324, 325, 326, 327, 328, 329, 330, 331, 332, 179, 180, 181, 182, 333, 334, 335, 336, 337, 338, 339, 340, 341, 342, 343, 344, 345, 346, 347, 348, 349, 350, 351, 352, 353, 186, 187, 188, 189, 657, 658, 659, 660, 661, 662, 663, 664, 665, 666, 667, 668, 669, 670, 671, 672, 673] (by decide +kernel) (by decide +kernel)
set_option maxRecDepth 20000 in
theorem gL_law_X7_far : GoodIn wsL_law (wsV RL 92 RX7 yX7_far wsX7_far) := goodIn_app (goodIn_of _ (by decide +kernel)) ggL_law_X7_far
set_option maxRecDepth 20000 in
theorem ggL_law_X6_cell : GoodIn wsL_law wsX6_cell := goodIn_r _ [539, 16, 116, 117, 2, 118, 540, 541, 542, 543, 544, 367, 368, 15, 369, 35, 36, 370, 250, 85, 251, 127, 252, 253, 254, 129, 130, 87, 89, 90, 91, 92, 93, 113, 114, 115, 97, 98, 99, 100, 101, 102, 103, 104, 105, 106, 107, 108, 109, 371, 84, 86, 88, 94, 95, 96, 110, 111, 112, 372, 373, 374, 306, 375, 376, 360, 377, 378, 379, 380, 381, 382, 383, 384, 385, 386, 387, 246, 247, 248, 249, 650, 651, 652, 653, 654, 655, 656, 674, 675, 676, 677, 678] (by decide +kernel) (by decide +kernel)
set_option maxRecDepth 20000 in
theorem gL_law_X6_cell : GoodIn wsL_law (wsV RL 93 RX6 yX6_cell wsX6_cell) := goodIn_app (goodIn_of _ (by decide +kernel)) ggL_law_X6_cell
set_option maxRecDepth 20000 in
theorem ggL_law_X7_cell : GoodIn wsL_law wsX7_cell := goodIn_r _ [548, 48, 55, 168, 169, 5, 170, 312, 313, 314, 315, 316, 317, 318, 319, 320, 321, 322, 323, 324, 325, 326, 327, 328, 329, 330, 331, 332, 392, 393, 394, 395, 396, 54, 397, 179, 180, 181, 182, 398, 399, 400, 549, 550, 551, 552, 189, 553, 404, 657, 658, 659, 660, 661, 662, 663, 664, 665, 666, 667, 668, 669, 670, 671, 672, 673] (by decide +kernel) (by decide +kernel)
set_option maxRecDepth 20000 in
theorem gL_law_X7_cell : GoodIn wsL_law (wsV RL 96 RX7 yX7_cell wsX7_cell) := goodIn_app (goodIn_of _ (by decide +kernel)) ggL_law_X7_cell
set_option maxRecDepth 20000 in
theorem ggL_law_X6_mark : GoodIn wsL_law wsX6_mark := goodIn_r _ [557, 17, 116, 117, 2, 118, 558, 559, 560, 561, 544, 367, 368, 15, 369, 35, 36, 370, 250, 85, 251, 127, 252, 253, 254, 129, 130, 87, 89, 90, 91, 92, 93, 113, 114, 115, 97, 98, 99, 100, 101, 102, 103, 104, 105, 106, 107, 108, 109, 371, 84, 86, 88, 94, 95, 96, 110, 111, 112, 372, 373, 374, 306, 375, 376, 360, 377, 378, 379, 380, 381, 382, 383, 384, 385, 386, 387, 246, 247, 248, 249, 650, 651, 652, 653, 654, 655, 656, 674, 675, 676, 677, 678] (by decide +kernel) (by decide +kernel)
set_option maxRecDepth 20000 in
theorem gL_law_X6_mark : GoodIn wsL_law (wsV RL 97 RX6 yX6_mark wsX6_mark) := goodIn_app (goodIn_of _ (by decide +kernel)) ggL_law_X6_mark
set_option maxRecDepth 20000 in
theorem ggL_law_X7_mark : GoodIn wsL_law wsX7_mark := goodIn_r _ [565, 49, 61, 168, 169, 5, 170, 333, 334, 335, 336, 337, 338, 339, 340, 341, 342, 343, 344, 345, 346, 347, 348, 349, 350, 351, 352, 353, 401, 402, 403, 404, 405, 60, 186, 187, 188, 189, 566, 567, 568, 569, 182, 570, 395, 657, 658, 659, 660, 661, 662, 663, 664, 665, 666, 667, 668, 669, 670, 671, 672, 673] (by decide +kernel) (by decide +kernel)
set_option maxRecDepth 20000 in
theorem gL_law_X7_mark : GoodIn wsL_law (wsV RL 100 RX7 yX7_mark wsX7_mark) := goodIn_app (goodIn_of _ (by decide +kernel)) ggL_law_X7_mark
set_option maxRecDepth 20000 in
theorem ggL_law_X6_gap : GoodIn wsL_law wsX6_gap := goodIn_r _ [574, 16, 575, 576, 577, 578, 116, 117, 2, 118, 540, 541, 542, 543, 544, 367, 368, 15, 369, 35, 36, 370, 250, 85, 251, 127, 252, 253, 254, 129, 130, 87, 89, 90, 91, 92, 93, 113, 114, 115, 97, 98, 99, 100, 101, 102, 103, 104, 105, 106, 107, 108, 109, 371, 84, 86, 88, 94, 95, 96, 110, 111, 112, 372, 373, 374, 306, 375, 376, 360, 377, 378, 379, 380, 381, 382, 383, 384, 385, 386, 387, 246, 247, 248, 249, 650, 651, 652, 653, 654, 655, 656, 674, 675, 676, 677, 678] (by decide +kernel) (by decide +kernel)
set_option maxRecDepth 20000 in
theorem gL_law_X6_gap : GoodIn wsL_law (wsV RL 101 RX6 yX6_gap wsX6_gap) := goodIn_app (goodIn_of _ (by decide +kernel)) ggL_law_X6_gap
set_option maxRecDepth 20000 in
theorem ggL_law_X7_gap : GoodIn wsL_law wsX7_gap := goodIn_r _ [582, 168, 169, 5, 170, 583, 546, 547, 548, 48, 55, 312, 313, 314, 315, 316, 317, 318, 319, 320, 321, 322, 323, 324, 325, 326, 327, 328, 329, 330, 331, 332, 392, 393, 394, 395, 396, 54, 397, 179, 180, 181, 182, 398, 399, 400, 549, 550, 551, 552, 189, 553, 404, 657, 658, 659, 660, 661, 662, 663, 664, 665, 666, 667, 668, 669, 670, 671, 672, 673] (by decide +kernel) (by decide +kernel)
set_option maxRecDepth 20000 in
theorem gL_law_X7_gap : GoodIn wsL_law (wsV RL 104 RX7 yX7_gap wsX7_gap) := goodIn_app (goodIn_of _ (by decide +kernel)) ggL_law_X7_gap
set_option maxRecDepth 20000 in
theorem ggL_law_X6_rise : GoodIn wsL_law wsX6_rise := goodIn_r _ [587, 17, 588, 589, 577, 590, 116, 117, 2, 118, 558, 559, 560, 561, 544, 367, 368, 15, 369, 35, 36, 370, 250, 85, 251, 127, 252, 253, 254, 129, 130, 87, 89, 90, 91, 92, 93, 113, 114, 115, 97, 98, 99, 100, 101, 102, 103, 104, 105, 106, 107, 108, 109, 371, 84, 86, 88, 94, 95, 96, 110, 111, 112, 372, 373, 374, 306, 375, 376, 360, 377, 378, 379, 380, 381, 382, 383, 384, 385, 386, 387, 246, 247, 248, 249, 650, 651, 652, 653, 654, 655, 656, 674, 675, 676, 677, 678] (by decide +kernel) (by decide +kernel)
set_option maxRecDepth 20000 in
theorem gL_law_X6_rise : GoodIn wsL_law (wsV RL 105 RX6 yX6_rise wsX6_rise) := goodIn_app (goodIn_of _ (by decide +kernel)) ggL_law_X6_rise
set_option maxRecDepth 20000 in
theorem ggL_law_X7_rise : GoodIn wsL_law wsX7_rise := goodIn_r _ [594, 168, 169, 5, 170, 595, 563, 564, 565, 49, 61, 333, 334, 335, 336, 337, 338, 339, 340, 341, 342, 343, 344, 345, 346, 347, 348, 349, 350, 351, 352, 353, 401, 402, 403, 404, 405, 60, 186, 187, 188, 189, 566, 567, 568, 569, 182, 570, 395, 657, 658, 659, 660, 661, 662, 663, 664, 665, 666, 667, 668, 669, 670, 671, 672, 673] (by decide +kernel) (by decide +kernel)
set_option maxRecDepth 20000 in
theorem gL_law_X7_rise : GoodIn wsL_law (wsV RL 108 RX7 yX7_rise wsX7_rise) := goodIn_app (goodIn_of _ (by decide +kernel)) ggL_law_X7_rise
set_option maxRecDepth 20000 in
theorem ggL_law_X6_edge : GoodIn wsL_law wsX6_edge := goodIn_r _ [599, 16, 419, 420, 2, 421, 600, 601, 602, 15, 603, 29, 604, 423, 85, 424, 425, 147, 148, 143, 144, 145, 127, 426, 141, 142, 650, 651, 652, 653, 654, 655, 656, 674, 675, 676, 677, 678] (by decide +kernel) (by decide +kernel)
set_option maxRecDepth 20000 in
theorem gL_law_X6_edge : GoodIn wsL_law (wsV RL 109 RX6 yX6_edge wsX6_edge) := goodIn_app (goodIn_of _ (by decide +kernel)) ggL_law_X6_edge
set_option maxRecDepth 20000 in
theorem ggL_law_X7_edge : GoodIn wsL_law wsX7_edge := goodIn_r _ [608, 48, 212, 213, 5, 214, 208, 209, 210, 211, 179, 180, 181, 182, 205, 206, 207, 657, 658, 659, 660, 661, 662, 663, 664, 665, 666, 667, 668, 669, 670, 671, 672, 673] (by decide +kernel) (by decide +kernel)
set_option maxRecDepth 20000 in
theorem gL_law_X7_edge : GoodIn wsL_law (wsV RL 112 RX7 yX7_edge wsX7_edge) := goodIn_app (goodIn_of _ (by decide +kernel)) ggL_law_X7_edge
set_option maxRecDepth 20000 in
theorem ggL_law_X6_rim : GoodIn wsL_law wsX6_rim := goodIn_r _ [612, 17, 419, 420, 2, 421, 600, 601, 602, 15, 603, 29, 604, 423, 85, 424, 425, 147, 148, 143, 144, 145, 127, 426, 141, 142, 490, 491, 74, 492, 493, 494, 495, 496, 82, 497, 250, 251, 252, 253, 254, 129, 130, 87, 89, 90, 91, 92, 93, 113, 114, 115, 97, 98, 99, 100, 101, 102, 103, 104, 105, 106, 107, 108, 109, 650, 651, 652, 653, 654, 655, 656, 674, 675, 676, 677, 678] (by decide +kernel) (by decide +kernel)
set_option maxRecDepth 20000 in
theorem gL_law_X6_rim : GoodIn wsL_law (wsV RL 113 RX6 yX6_rim wsX6_rim) := goodIn_app (goodIn_of _ (by decide +kernel)) ggL_law_X6_rim
set_option maxRecDepth 20000 in
theorem ggL_law_X7_rim : GoodIn wsL_law wsX7_rim := goodIn_r _ [616, 49, 225, 226, 5, 227, 222, 223, 224, 186, 187, 188, 189, 219, 220, 221, 657, 658, 659, 660, 661, 662, 663, 664, 665, 666, 667, 668, 669, 670, 671, 672, 673] (by decide +kernel) (by decide +kernel)
set_option maxRecDepth 20000 in
theorem gL_law_X7_rim : GoodIn wsL_law (wsV RL 116 RX7 yX7_rim wsX7_rim) := goodIn_app (goodIn_of _ (by decide +kernel)) ggL_law_X7_rim
set_option maxRecDepth 20000 in
theorem ggL_law_X6_neighbour : GoodIn wsL_law wsX6_neighbour := goodIn_r _ [620, 116, 117, 2, 118, 527, 528, 529, 530, 16, 17, 458, 459, 460, 15, 461, 36, 302, 247, 85, 248, 249, 250, 251, 127, 252, 253, 254, 129, 130, 87, 89, 90, 91, 92, 93, 113, 114, 115, 97, 98, 99, 100, 101, 102, 103, 104, 105, 106, 107, 108, 109, 650, 651, 652, 653, 654, 655, 656, 674, 675, 676, 677, 678] (by decide +kernel) (by decide +kernel)
set_option maxRecDepth 20000 in
theorem gL_law_X6_neighbour : GoodIn wsL_law (wsV RL 117 RX6 yX6_neighbour wsX6_neighbour) := goodIn_app (goodIn_of _ (by decide +kernel)) ggL_law_X6_neighbour
set_option maxRecDepth 20000 in
theorem ggL_law_X7_neighbour : GoodIn wsL_law wsX7_neighbour := goodIn_r _ [624, 168, 169, 5, 170, 625, 533, 534, 535, 48, 49, 312, 313, 314, 315, 316, 317, 318, 319, 320, 321, 322, 323, 324, 325, 326, 327, 328, 329, 330, 331, 332, 179, 180, 181, 182, 333, 334, 335, 336, 337, 338, 339, 340, 341, 342, 343, 344, 345, 346, 347, 348, 349, 350, 351, 352, 353, 186, 187, 188, 189, 657, 658, 659, 660, 661, 662, 663, 664, 665, 666, 667, 668, 669, 670, 671, 672, 673] (by decide +kernel) (by decide +kernel)
set_option maxRecDepth 20000 in
theorem gL_law_X7_neighbour : GoodIn wsL_law (wsV RL 120 RX7 yX7_neighbour wsX7_neighbour) := goodIn_app (goodIn_of _ (by decide +kernel)) ggL_law_X7_neighbour
set_option maxRecDepth 20000 in
theorem ggL_law_X6_column : GoodIn wsL_law wsX6_column := goodIn_r _ [629, 16, 419, 420, 2, 421, 600, 601, 602, 15, 603, 29, 604, 423, 85, 424, 425, 147, 148, 143, 144, 145, 127, 426, 141, 142, 540, 541, 542, 543, 544, 367, 368, 369, 35, 36, 370, 250, 251, 252, 253, 254, 129, 130, 87, 89, 90, 91, 92, 93, 113, 114, 115, 97, 98, 99, 100, 101, 102, 103, 104, 105, 106, 107, 108, 109, 371, 84, 86, 88, 94, 95, 96, 110, 111, 112, 372, 373, 374, 306, 375, 376, 360, 377, 378, 379, 380, 381, 382, 383, 384, 385, 386, 387, 246, 247, 248, 249, 650, 651, 652, 653, 654, 655, 656, 674, 675, 676, 677, 678] (by decide +kernel) (by decide +kernel)
set_option maxRecDepth 20000 in
theorem gL_law_X6_column : GoodIn wsL_law (wsV RL 121 RX6 yX6_column wsX6_column) := goodIn_app (goodIn_of _ (by decide +kernel)) ggL_law_X6_column
set_option maxRecDepth 20000 in
theorem ggL_law_X7_column : GoodIn wsL_law wsX7_column := goodIn_r _ [633, 583, 546, 547, 5, 548, 48, 55, 168, 169, 170, 312, 313, 314, 315, 316, 317, 318, 319, 320, 321, 322, 323, 324, 325, 326, 327, 328, 329, 330, 331, 332, 392, 393, 394, 395, 396, 54, 397, 179, 180, 181, 182, 398, 399, 400, 549, 550, 551, 552, 189, 553, 404, 657, 658, 659, 660, 661, 662, 663, 664, 665, 666, 667, 668, 669, 670, 671, 672, 673] (by decide +kernel) (by decide +kernel)
set_option maxRecDepth 20000 in
theorem gL_law_X7_column : GoodIn wsL_law (wsV RL 124 RX7 yX7_column wsX7_column) := goodIn_app (goodIn_of _ (by decide +kernel)) ggL_law_X7_column
set_option maxRecDepth 20000 in
theorem ggL_law_X6_row : GoodIn wsL_law wsX6_row := goodIn_r _ [637, 17, 419, 420, 2, 421, 600, 601, 602, 15, 603, 29, 604, 423, 85, 424, 425, 147, 148, 143, 144, 145, 127, 426, 141, 142, 558, 559, 560, 561, 544, 367, 368, 369, 35, 36, 370, 250, 251, 252, 253, 254, 129, 130, 87, 89, 90, 91, 92, 93, 113, 114, 115, 97, 98, 99, 100, 101, 102, 103, 104, 105, 106, 107, 108, 109, 371, 84, 86, 88, 94, 95, 96, 110, 111, 112, 372, 373, 374, 306, 375, 376, 360, 377, 378, 379, 380, 381, 382, 383, 384, 385, 386, 387, 246, 247, 248, 249, 650, 651, 652, 653, 654, 655, 656, 674, 675, 676, 677, 678] (by decide +kernel) (by decide +kernel)
set_option maxRecDepth 20000 in
theorem gL_law_X6_row : GoodIn wsL_law (wsV RL 125 RX6 yX6_row wsX6_row) := goodIn_app (goodIn_of _ (by decide +kernel)) ggL_law_X6_row
set_option maxRecDepth 20000 in
theorem ggL_law_X7_row : GoodIn wsL_law wsX7_row := goodIn_r _ [641, 595, 563, 564, 5, 565, 49, 61, 168, 169, 170, 333, 334, 335, 336, 337, 338, 339, 340, 341, 342, 343, 344, 345, 346, 347, 348, 349, 350, 351, 352, 353, 401, 402, 403, 404, 405, 60, 186, 187, 188, 189, 566, 567, 568, 569, 182, 570, 395, 657, 658, 659, 660, 661, 662, 663, 664, 665, 666, 667, 668, 669, 670, 671, 672, 673] (by decide +kernel) (by decide +kernel)
set_option maxRecDepth 20000 in
theorem gL_law_X7_row : GoodIn wsL_law (wsV RL 128 RX7 yX7_row wsX7_row) := goodIn_app (goodIn_of _ (by decide +kernel)) ggL_law_X7_row
set_option maxRecDepth 20000 in
theorem ggL_law_X6_count : GoodIn wsL_law wsX6_count := goodIn_r _ [645, 163, 123, 135, 21, 650, 651, 652, 653, 654, 655, 656, 679, 680, 681, 682, 683] (by decide +kernel) (by decide +kernel)
set_option maxRecDepth 20000 in
theorem gL_law_X6_count : GoodIn wsL_law (wsV RL 129 RX6 yX6_count wsX6_count) := goodIn_app (goodIn_of _ (by decide +kernel)) ggL_law_X6_count
set_option maxRecDepth 20000 in
theorem ggL_law_X7_count : GoodIn wsL_law wsX7_count := goodIn_r _ [649, 237, 175, 200, 232, 657, 658, 659, 660, 661, 662, 663, 664, 665, 666, 667, 668, 669, 670, 671, 672, 673] (by decide +kernel) (by decide +kernel)
set_option maxRecDepth 20000 in
theorem gL_law_X7_count : GoodIn wsL_law (wsV RL 132 RX7 yX7_count wsX7_count) := goodIn_app (goodIn_of _ (by decide +kernel)) ggL_law_X7_count
theorem dL_law_0 : decode cL_law 0 = .ok (.new 7, 3) := by decide +kernel
theorem dL_law_3 : decode cL_law 3 = .ok (.dup, 1) := by decide +kernel
theorem dL_law_4 : decode cL_law 4 = .ok (.invokespecial 9, 3) := by decide +kernel
theorem dL_law_7 : decode cL_law 7 = .ok (.astore_n 1, 1) := by decide +kernel
theorem dL_law_8 : decode cL_law 8 = .ok (.new 10, 3) := by decide +kernel
theorem dL_law_11 : decode cL_law 11 = .ok (.dup, 1) := by decide +kernel
theorem dL_law_12 : decode cL_law 12 = .ok (.invokespecial 12, 3) := by decide +kernel
theorem dL_law_15 : decode cL_law 15 = .ok (.astore_n 2, 1) := by decide +kernel
theorem dL_law_16 : decode cL_law 16 = .ok (.iconst 0, 1) := by decide +kernel
theorem dL_law_17 : decode cL_law 17 = .ok (.istore_n 3, 1) := by decide +kernel
theorem dL_law_18 : decode cL_law 18 = .ok (.iload_n 3, 1) := by decide +kernel
theorem dL_law_19 : decode cL_law 19 = .ok (.aload_n 0, 1) := by decide +kernel
theorem dL_law_20 : decode cL_law 20 = .ok (.arraylength, 1) := by decide +kernel
theorem dL_law_21 : decode cL_law 21 = .ok (.iconst 5, 1) := by decide +kernel
theorem dL_law_22 : decode cL_law 22 = .ok (.isub, 1) := by decide +kernel
theorem dL_law_23 : decode cL_law 23 = .ok (.if_icmp .gt 1167, 3) := by decide +kernel
theorem dL_law_26 : decode cL_law 26 = .ok (.aload_n 0, 1) := by decide +kernel
theorem dL_law_27 : decode cL_law 27 = .ok (.iload_n 3, 1) := by decide +kernel
theorem dL_law_28 : decode cL_law 28 = .ok (.iaload, 1) := by decide +kernel
theorem dL_law_29 : decode cL_law 29 = .ok (.bipush 31, 2) := by decide +kernel
theorem dL_law_31 : decode cL_law 31 = .ok (.iand, 1) := by decide +kernel
theorem dL_law_32 : decode cL_law 32 = .ok (.tableswitch 1152 0 26 #[124, 197, 290, 323, 386, 459, 492, 525, 568, 631, 694, 757, 770, 794, 817, 841, 864, 898, 921, 945, 978, 1012, 1036, 1059, 1082, 1105, 1129], 124) := by decide +kernel
theorem dL_law_156 : decode cL_law 156 = .ok (.aload_n 1, 1) := by decide +kernel
theorem dL_law_157 : decode cL_law 157 = .ok (.aload_n 0, 1) := by decide +kernel
theorem dL_law_158 : decode cL_law 158 = .ok (.iload_n 3, 1) := by decide +kernel
theorem dL_law_159 : decode cL_law 159 = .ok (.iconst 1, 1) := by decide +kernel
theorem dL_law_160 : decode cL_law 160 = .ok (.iadd, 1) := by decide +kernel
theorem dL_law_161 : decode cL_law 161 = .ok (.iaload, 1) := by decide +kernel
theorem dL_law_162 : decode cL_law 162 = .ok (.aload_n 0, 1) := by decide +kernel
theorem dL_law_163 : decode cL_law 163 = .ok (.iload_n 3, 1) := by decide +kernel
theorem dL_law_164 : decode cL_law 164 = .ok (.iconst 2, 1) := by decide +kernel
theorem dL_law_165 : decode cL_law 165 = .ok (.iadd, 1) := by decide +kernel
theorem dL_law_166 : decode cL_law 166 = .ok (.iaload, 1) := by decide +kernel
theorem dL_law_167 : decode cL_law 167 = .ok (.i2l, 1) := by decide +kernel
theorem dL_law_168 : decode cL_law 168 = .ok (.bipush 32, 2) := by decide +kernel
theorem dL_law_170 : decode cL_law 170 = .ok (.lshl, 1) := by decide +kernel
theorem dL_law_171 : decode cL_law 171 = .ok (.aload_n 0, 1) := by decide +kernel
theorem dL_law_172 : decode cL_law 172 = .ok (.iload_n 3, 1) := by decide +kernel
theorem dL_law_173 : decode cL_law 173 = .ok (.iconst 3, 1) := by decide +kernel
theorem dL_law_174 : decode cL_law 174 = .ok (.iadd, 1) := by decide +kernel
theorem dL_law_175 : decode cL_law 175 = .ok (.iaload, 1) := by decide +kernel
theorem dL_law_176 : decode cL_law 176 = .ok (.i2l, 1) := by decide +kernel
theorem dL_law_177 : decode cL_law 177 = .ok (.ldc2_w 13, 3) := by decide +kernel
theorem dL_law_180 : decode cL_law 180 = .ok (.land, 1) := by decide +kernel
theorem dL_law_181 : decode cL_law 181 = .ok (.lor, 1) := by decide +kernel
theorem dL_law_182 : decode cL_law 182 = .ok (.aload_n 0, 1) := by decide +kernel
theorem dL_law_183 : decode cL_law 183 = .ok (.iload_n 3, 1) := by decide +kernel
theorem dL_law_184 : decode cL_law 184 = .ok (.iconst 4, 1) := by decide +kernel
theorem dL_law_185 : decode cL_law 185 = .ok (.iadd, 1) := by decide +kernel
theorem dL_law_186 : decode cL_law 186 = .ok (.iaload, 1) := by decide +kernel
theorem dL_law_187 : decode cL_law 187 = .ok (.invokevirtual 15, 3) := by decide +kernel
theorem dL_law_190 : decode cL_law 190 = .ok (.aload_n 2, 1) := by decide +kernel
theorem dL_law_191 : decode cL_law 191 = .ok (.aload_n 0, 1) := by decide +kernel
theorem dL_law_192 : decode cL_law 192 = .ok (.iload_n 3, 1) := by decide +kernel
theorem dL_law_193 : decode cL_law 193 = .ok (.iconst 1, 1) := by decide +kernel
theorem dL_law_194 : decode cL_law 194 = .ok (.iadd, 1) := by decide +kernel
theorem dL_law_195 : decode cL_law 195 = .ok (.iaload, 1) := by decide +kernel
theorem dL_law_196 : decode cL_law 196 = .ok (.aload_n 0, 1) := by decide +kernel
theorem dL_law_197 : decode cL_law 197 = .ok (.iload_n 3, 1) := by decide +kernel
theorem dL_law_198 : decode cL_law 198 = .ok (.iconst 2, 1) := by decide +kernel
theorem dL_law_199 : decode cL_law 199 = .ok (.iadd, 1) := by decide +kernel
theorem dL_law_200 : decode cL_law 200 = .ok (.iaload, 1) := by decide +kernel
theorem dL_law_201 : decode cL_law 201 = .ok (.i2l, 1) := by decide +kernel
theorem dL_law_202 : decode cL_law 202 = .ok (.bipush 32, 2) := by decide +kernel
theorem dL_law_204 : decode cL_law 204 = .ok (.lshl, 1) := by decide +kernel
theorem dL_law_205 : decode cL_law 205 = .ok (.aload_n 0, 1) := by decide +kernel
theorem dL_law_206 : decode cL_law 206 = .ok (.iload_n 3, 1) := by decide +kernel
theorem dL_law_207 : decode cL_law 207 = .ok (.iconst 3, 1) := by decide +kernel
theorem dL_law_208 : decode cL_law 208 = .ok (.iadd, 1) := by decide +kernel
theorem dL_law_209 : decode cL_law 209 = .ok (.iaload, 1) := by decide +kernel
theorem dL_law_210 : decode cL_law 210 = .ok (.i2l, 1) := by decide +kernel
theorem dL_law_211 : decode cL_law 211 = .ok (.ldc2_w 13, 3) := by decide +kernel
theorem dL_law_214 : decode cL_law 214 = .ok (.land, 1) := by decide +kernel
theorem dL_law_215 : decode cL_law 215 = .ok (.lor, 1) := by decide +kernel
theorem dL_law_216 : decode cL_law 216 = .ok (.aload_n 0, 1) := by decide +kernel
theorem dL_law_217 : decode cL_law 217 = .ok (.iload_n 3, 1) := by decide +kernel
theorem dL_law_218 : decode cL_law 218 = .ok (.iconst 4, 1) := by decide +kernel
theorem dL_law_219 : decode cL_law 219 = .ok (.iadd, 1) := by decide +kernel
theorem dL_law_220 : decode cL_law 220 = .ok (.iaload, 1) := by decide +kernel
theorem dL_law_221 : decode cL_law 221 = .ok (.invokevirtual 19, 3) := by decide +kernel
theorem dL_law_224 : decode cL_law 224 = .ok (.if_icmp .eq 960, 3) := by decide +kernel
theorem dL_law_227 : decode cL_law 227 = .ok (.iconst 0, 1) := by decide +kernel
theorem dL_law_228 : decode cL_law 228 = .ok (.ireturn, 1) := by decide +kernel
theorem dL_law_229 : decode cL_law 229 = .ok (.aload_n 1, 1) := by decide +kernel
theorem dL_law_230 : decode cL_law 230 = .ok (.aload_n 0, 1) := by decide +kernel
theorem dL_law_231 : decode cL_law 231 = .ok (.iload_n 3, 1) := by decide +kernel
theorem dL_law_232 : decode cL_law 232 = .ok (.iconst 1, 1) := by decide +kernel
theorem dL_law_233 : decode cL_law 233 = .ok (.iadd, 1) := by decide +kernel
theorem dL_law_234 : decode cL_law 234 = .ok (.iaload, 1) := by decide +kernel
theorem dL_law_235 : decode cL_law 235 = .ok (.i2l, 1) := by decide +kernel
theorem dL_law_236 : decode cL_law 236 = .ok (.bipush 32, 2) := by decide +kernel
theorem dL_law_238 : decode cL_law 238 = .ok (.lshl, 1) := by decide +kernel
theorem dL_law_239 : decode cL_law 239 = .ok (.aload_n 0, 1) := by decide +kernel
theorem dL_law_240 : decode cL_law 240 = .ok (.iload_n 3, 1) := by decide +kernel
theorem dL_law_241 : decode cL_law 241 = .ok (.iconst 2, 1) := by decide +kernel
theorem dL_law_242 : decode cL_law 242 = .ok (.iadd, 1) := by decide +kernel
theorem dL_law_243 : decode cL_law 243 = .ok (.iaload, 1) := by decide +kernel
theorem dL_law_244 : decode cL_law 244 = .ok (.i2l, 1) := by decide +kernel
theorem dL_law_245 : decode cL_law 245 = .ok (.ldc2_w 13, 3) := by decide +kernel
theorem dL_law_248 : decode cL_law 248 = .ok (.land, 1) := by decide +kernel
theorem dL_law_249 : decode cL_law 249 = .ok (.lor, 1) := by decide +kernel
theorem dL_law_250 : decode cL_law 250 = .ok (.aload_n 0, 1) := by decide +kernel
theorem dL_law_251 : decode cL_law 251 = .ok (.iload_n 3, 1) := by decide +kernel
theorem dL_law_252 : decode cL_law 252 = .ok (.iconst 3, 1) := by decide +kernel
theorem dL_law_253 : decode cL_law 253 = .ok (.iadd, 1) := by decide +kernel
theorem dL_law_254 : decode cL_law 254 = .ok (.iaload, 1) := by decide +kernel
theorem dL_law_255 : decode cL_law 255 = .ok (.i2l, 1) := by decide +kernel
theorem dL_law_256 : decode cL_law 256 = .ok (.bipush 32, 2) := by decide +kernel
theorem dL_law_258 : decode cL_law 258 = .ok (.lshl, 1) := by decide +kernel
theorem dL_law_259 : decode cL_law 259 = .ok (.aload_n 0, 1) := by decide +kernel
theorem dL_law_260 : decode cL_law 260 = .ok (.iload_n 3, 1) := by decide +kernel
theorem dL_law_261 : decode cL_law 261 = .ok (.iconst 4, 1) := by decide +kernel
theorem dL_law_262 : decode cL_law 262 = .ok (.iadd, 1) := by decide +kernel
theorem dL_law_263 : decode cL_law 263 = .ok (.iaload, 1) := by decide +kernel
theorem dL_law_264 : decode cL_law 264 = .ok (.i2l, 1) := by decide +kernel
theorem dL_law_265 : decode cL_law 265 = .ok (.ldc2_w 13, 3) := by decide +kernel
theorem dL_law_268 : decode cL_law 268 = .ok (.land, 1) := by decide +kernel
theorem dL_law_269 : decode cL_law 269 = .ok (.lor, 1) := by decide +kernel
theorem dL_law_270 : decode cL_law 270 = .ok (.invokevirtual 20, 3) := by decide +kernel
theorem dL_law_273 : decode cL_law 273 = .ok (.aload_n 2, 1) := by decide +kernel
theorem dL_law_274 : decode cL_law 274 = .ok (.aload_n 0, 1) := by decide +kernel
theorem dL_law_275 : decode cL_law 275 = .ok (.iload_n 3, 1) := by decide +kernel
theorem dL_law_276 : decode cL_law 276 = .ok (.iconst 1, 1) := by decide +kernel
theorem dL_law_277 : decode cL_law 277 = .ok (.iadd, 1) := by decide +kernel
theorem dL_law_278 : decode cL_law 278 = .ok (.iaload, 1) := by decide +kernel
theorem dL_law_279 : decode cL_law 279 = .ok (.i2l, 1) := by decide +kernel
theorem dL_law_280 : decode cL_law 280 = .ok (.bipush 32, 2) := by decide +kernel
theorem dL_law_282 : decode cL_law 282 = .ok (.lshl, 1) := by decide +kernel
theorem dL_law_283 : decode cL_law 283 = .ok (.aload_n 0, 1) := by decide +kernel
theorem dL_law_284 : decode cL_law 284 = .ok (.iload_n 3, 1) := by decide +kernel
theorem dL_law_285 : decode cL_law 285 = .ok (.iconst 2, 1) := by decide +kernel
theorem dL_law_286 : decode cL_law 286 = .ok (.iadd, 1) := by decide +kernel
theorem dL_law_287 : decode cL_law 287 = .ok (.iaload, 1) := by decide +kernel
theorem dL_law_288 : decode cL_law 288 = .ok (.i2l, 1) := by decide +kernel
theorem dL_law_289 : decode cL_law 289 = .ok (.ldc2_w 13, 3) := by decide +kernel
theorem dL_law_292 : decode cL_law 292 = .ok (.land, 1) := by decide +kernel
theorem dL_law_293 : decode cL_law 293 = .ok (.lor, 1) := by decide +kernel
theorem dL_law_294 : decode cL_law 294 = .ok (.aload_n 0, 1) := by decide +kernel
theorem dL_law_295 : decode cL_law 295 = .ok (.iload_n 3, 1) := by decide +kernel
theorem dL_law_296 : decode cL_law 296 = .ok (.iconst 3, 1) := by decide +kernel
theorem dL_law_297 : decode cL_law 297 = .ok (.iadd, 1) := by decide +kernel
theorem dL_law_298 : decode cL_law 298 = .ok (.iaload, 1) := by decide +kernel
theorem dL_law_299 : decode cL_law 299 = .ok (.i2l, 1) := by decide +kernel
theorem dL_law_300 : decode cL_law 300 = .ok (.bipush 32, 2) := by decide +kernel
theorem dL_law_302 : decode cL_law 302 = .ok (.lshl, 1) := by decide +kernel
theorem dL_law_303 : decode cL_law 303 = .ok (.aload_n 0, 1) := by decide +kernel
theorem dL_law_304 : decode cL_law 304 = .ok (.iload_n 3, 1) := by decide +kernel
theorem dL_law_305 : decode cL_law 305 = .ok (.iconst 4, 1) := by decide +kernel
theorem dL_law_306 : decode cL_law 306 = .ok (.iadd, 1) := by decide +kernel
theorem dL_law_307 : decode cL_law 307 = .ok (.iaload, 1) := by decide +kernel
theorem dL_law_308 : decode cL_law 308 = .ok (.i2l, 1) := by decide +kernel
theorem dL_law_309 : decode cL_law 309 = .ok (.ldc2_w 13, 3) := by decide +kernel
theorem dL_law_312 : decode cL_law 312 = .ok (.land, 1) := by decide +kernel
theorem dL_law_313 : decode cL_law 313 = .ok (.lor, 1) := by decide +kernel
theorem dL_law_314 : decode cL_law 314 = .ok (.invokevirtual 24, 3) := by decide +kernel
theorem dL_law_317 : decode cL_law 317 = .ok (.if_icmp .eq 867, 3) := by decide +kernel
theorem dL_law_320 : decode cL_law 320 = .ok (.iconst 0, 1) := by decide +kernel
theorem dL_law_321 : decode cL_law 321 = .ok (.ireturn, 1) := by decide +kernel
theorem dL_law_322 : decode cL_law 322 = .ok (.aload_n 1, 1) := by decide +kernel
theorem dL_law_323 : decode cL_law 323 = .ok (.aload_n 0, 1) := by decide +kernel
theorem dL_law_324 : decode cL_law 324 = .ok (.iload_n 3, 1) := by decide +kernel
theorem dL_law_325 : decode cL_law 325 = .ok (.iconst 1, 1) := by decide +kernel
theorem dL_law_326 : decode cL_law 326 = .ok (.iadd, 1) := by decide +kernel
theorem dL_law_327 : decode cL_law 327 = .ok (.iaload, 1) := by decide +kernel
theorem dL_law_328 : decode cL_law 328 = .ok (.aload_n 0, 1) := by decide +kernel
theorem dL_law_329 : decode cL_law 329 = .ok (.iload_n 3, 1) := by decide +kernel
theorem dL_law_330 : decode cL_law 330 = .ok (.iconst 2, 1) := by decide +kernel
theorem dL_law_331 : decode cL_law 331 = .ok (.iadd, 1) := by decide +kernel
theorem dL_law_332 : decode cL_law 332 = .ok (.iaload, 1) := by decide +kernel
theorem dL_law_333 : decode cL_law 333 = .ok (.invokevirtual 25, 3) := by decide +kernel
theorem dL_law_336 : decode cL_law 336 = .ok (.aload_n 2, 1) := by decide +kernel
theorem dL_law_337 : decode cL_law 337 = .ok (.aload_n 0, 1) := by decide +kernel
theorem dL_law_338 : decode cL_law 338 = .ok (.iload_n 3, 1) := by decide +kernel
theorem dL_law_339 : decode cL_law 339 = .ok (.iconst 1, 1) := by decide +kernel
theorem dL_law_340 : decode cL_law 340 = .ok (.iadd, 1) := by decide +kernel
theorem dL_law_341 : decode cL_law 341 = .ok (.iaload, 1) := by decide +kernel
theorem dL_law_342 : decode cL_law 342 = .ok (.aload_n 0, 1) := by decide +kernel
theorem dL_law_343 : decode cL_law 343 = .ok (.iload_n 3, 1) := by decide +kernel
theorem dL_law_344 : decode cL_law 344 = .ok (.iconst 2, 1) := by decide +kernel
theorem dL_law_345 : decode cL_law 345 = .ok (.iadd, 1) := by decide +kernel
theorem dL_law_346 : decode cL_law 346 = .ok (.iaload, 1) := by decide +kernel
theorem dL_law_347 : decode cL_law 347 = .ok (.invokevirtual 29, 3) := by decide +kernel
theorem dL_law_350 : decode cL_law 350 = .ok (.if_icmp .eq 834, 3) := by decide +kernel
theorem dL_law_353 : decode cL_law 353 = .ok (.iconst 0, 1) := by decide +kernel
theorem dL_law_354 : decode cL_law 354 = .ok (.ireturn, 1) := by decide +kernel
theorem dL_law_355 : decode cL_law 355 = .ok (.aload_n 1, 1) := by decide +kernel
theorem dL_law_356 : decode cL_law 356 = .ok (.aload_n 0, 1) := by decide +kernel
theorem dL_law_357 : decode cL_law 357 = .ok (.iload_n 3, 1) := by decide +kernel
theorem dL_law_358 : decode cL_law 358 = .ok (.iconst 1, 1) := by decide +kernel
theorem dL_law_359 : decode cL_law 359 = .ok (.iadd, 1) := by decide +kernel
theorem dL_law_360 : decode cL_law 360 = .ok (.iaload, 1) := by decide +kernel
theorem dL_law_361 : decode cL_law 361 = .ok (.i2l, 1) := by decide +kernel
theorem dL_law_362 : decode cL_law 362 = .ok (.bipush 32, 2) := by decide +kernel
theorem dL_law_364 : decode cL_law 364 = .ok (.lshl, 1) := by decide +kernel
theorem dL_law_365 : decode cL_law 365 = .ok (.aload_n 0, 1) := by decide +kernel
theorem dL_law_366 : decode cL_law 366 = .ok (.iload_n 3, 1) := by decide +kernel
theorem dL_law_367 : decode cL_law 367 = .ok (.iconst 2, 1) := by decide +kernel
theorem dL_law_368 : decode cL_law 368 = .ok (.iadd, 1) := by decide +kernel
theorem dL_law_369 : decode cL_law 369 = .ok (.iaload, 1) := by decide +kernel
theorem dL_law_370 : decode cL_law 370 = .ok (.i2l, 1) := by decide +kernel
theorem dL_law_371 : decode cL_law 371 = .ok (.ldc2_w 13, 3) := by decide +kernel
theorem dL_law_374 : decode cL_law 374 = .ok (.land, 1) := by decide +kernel
theorem dL_law_375 : decode cL_law 375 = .ok (.lor, 1) := by decide +kernel
theorem dL_law_376 : decode cL_law 376 = .ok (.aload_n 0, 1) := by decide +kernel
theorem dL_law_377 : decode cL_law 377 = .ok (.iload_n 3, 1) := by decide +kernel
theorem dL_law_378 : decode cL_law 378 = .ok (.iconst 3, 1) := by decide +kernel
theorem dL_law_379 : decode cL_law 379 = .ok (.iadd, 1) := by decide +kernel
theorem dL_law_380 : decode cL_law 380 = .ok (.iaload, 1) := by decide +kernel
theorem dL_law_381 : decode cL_law 381 = .ok (.invokevirtual 30, 3) := by decide +kernel
theorem dL_law_384 : decode cL_law 384 = .ok (.aload_n 2, 1) := by decide +kernel
theorem dL_law_385 : decode cL_law 385 = .ok (.aload_n 0, 1) := by decide +kernel
theorem dL_law_386 : decode cL_law 386 = .ok (.iload_n 3, 1) := by decide +kernel
theorem dL_law_387 : decode cL_law 387 = .ok (.iconst 1, 1) := by decide +kernel
theorem dL_law_388 : decode cL_law 388 = .ok (.iadd, 1) := by decide +kernel
theorem dL_law_389 : decode cL_law 389 = .ok (.iaload, 1) := by decide +kernel
theorem dL_law_390 : decode cL_law 390 = .ok (.i2l, 1) := by decide +kernel
theorem dL_law_391 : decode cL_law 391 = .ok (.bipush 32, 2) := by decide +kernel
theorem dL_law_393 : decode cL_law 393 = .ok (.lshl, 1) := by decide +kernel
theorem dL_law_394 : decode cL_law 394 = .ok (.aload_n 0, 1) := by decide +kernel
theorem dL_law_395 : decode cL_law 395 = .ok (.iload_n 3, 1) := by decide +kernel
theorem dL_law_396 : decode cL_law 396 = .ok (.iconst 2, 1) := by decide +kernel
theorem dL_law_397 : decode cL_law 397 = .ok (.iadd, 1) := by decide +kernel
theorem dL_law_398 : decode cL_law 398 = .ok (.iaload, 1) := by decide +kernel
theorem dL_law_399 : decode cL_law 399 = .ok (.i2l, 1) := by decide +kernel
theorem dL_law_400 : decode cL_law 400 = .ok (.ldc2_w 13, 3) := by decide +kernel
theorem dL_law_403 : decode cL_law 403 = .ok (.land, 1) := by decide +kernel
theorem dL_law_404 : decode cL_law 404 = .ok (.lor, 1) := by decide +kernel
theorem dL_law_405 : decode cL_law 405 = .ok (.aload_n 0, 1) := by decide +kernel
theorem dL_law_406 : decode cL_law 406 = .ok (.iload_n 3, 1) := by decide +kernel
theorem dL_law_407 : decode cL_law 407 = .ok (.iconst 3, 1) := by decide +kernel
theorem dL_law_408 : decode cL_law 408 = .ok (.iadd, 1) := by decide +kernel
theorem dL_law_409 : decode cL_law 409 = .ok (.iaload, 1) := by decide +kernel
theorem dL_law_410 : decode cL_law 410 = .ok (.invokevirtual 34, 3) := by decide +kernel
theorem dL_law_413 : decode cL_law 413 = .ok (.if_icmp .eq 771, 3) := by decide +kernel
theorem dL_law_416 : decode cL_law 416 = .ok (.iconst 0, 1) := by decide +kernel
theorem dL_law_417 : decode cL_law 417 = .ok (.ireturn, 1) := by decide +kernel
theorem dL_law_418 : decode cL_law 418 = .ok (.aload_n 1, 1) := by decide +kernel
theorem dL_law_419 : decode cL_law 419 = .ok (.aload_n 0, 1) := by decide +kernel
theorem dL_law_420 : decode cL_law 420 = .ok (.iload_n 3, 1) := by decide +kernel
theorem dL_law_421 : decode cL_law 421 = .ok (.iconst 1, 1) := by decide +kernel
theorem dL_law_422 : decode cL_law 422 = .ok (.iadd, 1) := by decide +kernel
theorem dL_law_423 : decode cL_law 423 = .ok (.iaload, 1) := by decide +kernel
theorem dL_law_424 : decode cL_law 424 = .ok (.aload_n 0, 1) := by decide +kernel
theorem dL_law_425 : decode cL_law 425 = .ok (.iload_n 3, 1) := by decide +kernel
theorem dL_law_426 : decode cL_law 426 = .ok (.iconst 2, 1) := by decide +kernel
theorem dL_law_427 : decode cL_law 427 = .ok (.iadd, 1) := by decide +kernel
theorem dL_law_428 : decode cL_law 428 = .ok (.iaload, 1) := by decide +kernel
theorem dL_law_429 : decode cL_law 429 = .ok (.i2l, 1) := by decide +kernel
theorem dL_law_430 : decode cL_law 430 = .ok (.bipush 32, 2) := by decide +kernel
theorem dL_law_432 : decode cL_law 432 = .ok (.lshl, 1) := by decide +kernel
theorem dL_law_433 : decode cL_law 433 = .ok (.aload_n 0, 1) := by decide +kernel
theorem dL_law_434 : decode cL_law 434 = .ok (.iload_n 3, 1) := by decide +kernel
theorem dL_law_435 : decode cL_law 435 = .ok (.iconst 3, 1) := by decide +kernel
theorem dL_law_436 : decode cL_law 436 = .ok (.iadd, 1) := by decide +kernel
theorem dL_law_437 : decode cL_law 437 = .ok (.iaload, 1) := by decide +kernel
theorem dL_law_438 : decode cL_law 438 = .ok (.i2l, 1) := by decide +kernel
theorem dL_law_439 : decode cL_law 439 = .ok (.ldc2_w 13, 3) := by decide +kernel
theorem dL_law_442 : decode cL_law 442 = .ok (.land, 1) := by decide +kernel
theorem dL_law_443 : decode cL_law 443 = .ok (.lor, 1) := by decide +kernel
theorem dL_law_444 : decode cL_law 444 = .ok (.aload_n 0, 1) := by decide +kernel
theorem dL_law_445 : decode cL_law 445 = .ok (.iload_n 3, 1) := by decide +kernel
theorem dL_law_446 : decode cL_law 446 = .ok (.iconst 4, 1) := by decide +kernel
theorem dL_law_447 : decode cL_law 447 = .ok (.iadd, 1) := by decide +kernel
theorem dL_law_448 : decode cL_law 448 = .ok (.iaload, 1) := by decide +kernel
theorem dL_law_449 : decode cL_law 449 = .ok (.invokevirtual 35, 3) := by decide +kernel
theorem dL_law_452 : decode cL_law 452 = .ok (.aload_n 2, 1) := by decide +kernel
theorem dL_law_453 : decode cL_law 453 = .ok (.aload_n 0, 1) := by decide +kernel
theorem dL_law_454 : decode cL_law 454 = .ok (.iload_n 3, 1) := by decide +kernel
theorem dL_law_455 : decode cL_law 455 = .ok (.iconst 1, 1) := by decide +kernel
theorem dL_law_456 : decode cL_law 456 = .ok (.iadd, 1) := by decide +kernel
theorem dL_law_457 : decode cL_law 457 = .ok (.iaload, 1) := by decide +kernel
theorem dL_law_458 : decode cL_law 458 = .ok (.aload_n 0, 1) := by decide +kernel
theorem dL_law_459 : decode cL_law 459 = .ok (.iload_n 3, 1) := by decide +kernel
theorem dL_law_460 : decode cL_law 460 = .ok (.iconst 2, 1) := by decide +kernel
theorem dL_law_461 : decode cL_law 461 = .ok (.iadd, 1) := by decide +kernel
theorem dL_law_462 : decode cL_law 462 = .ok (.iaload, 1) := by decide +kernel
theorem dL_law_463 : decode cL_law 463 = .ok (.i2l, 1) := by decide +kernel
theorem dL_law_464 : decode cL_law 464 = .ok (.bipush 32, 2) := by decide +kernel
theorem dL_law_466 : decode cL_law 466 = .ok (.lshl, 1) := by decide +kernel
theorem dL_law_467 : decode cL_law 467 = .ok (.aload_n 0, 1) := by decide +kernel
theorem dL_law_468 : decode cL_law 468 = .ok (.iload_n 3, 1) := by decide +kernel
theorem dL_law_469 : decode cL_law 469 = .ok (.iconst 3, 1) := by decide +kernel
theorem dL_law_470 : decode cL_law 470 = .ok (.iadd, 1) := by decide +kernel
theorem dL_law_471 : decode cL_law 471 = .ok (.iaload, 1) := by decide +kernel
theorem dL_law_472 : decode cL_law 472 = .ok (.i2l, 1) := by decide +kernel
theorem dL_law_473 : decode cL_law 473 = .ok (.ldc2_w 13, 3) := by decide +kernel
theorem dL_law_476 : decode cL_law 476 = .ok (.land, 1) := by decide +kernel
theorem dL_law_477 : decode cL_law 477 = .ok (.lor, 1) := by decide +kernel
theorem dL_law_478 : decode cL_law 478 = .ok (.aload_n 0, 1) := by decide +kernel
theorem dL_law_479 : decode cL_law 479 = .ok (.iload_n 3, 1) := by decide +kernel
theorem dL_law_480 : decode cL_law 480 = .ok (.iconst 4, 1) := by decide +kernel
theorem dL_law_481 : decode cL_law 481 = .ok (.iadd, 1) := by decide +kernel
theorem dL_law_482 : decode cL_law 482 = .ok (.iaload, 1) := by decide +kernel
theorem dL_law_483 : decode cL_law 483 = .ok (.invokevirtual 38, 3) := by decide +kernel
theorem dL_law_486 : decode cL_law 486 = .ok (.if_icmp .eq 698, 3) := by decide +kernel
theorem dL_law_489 : decode cL_law 489 = .ok (.iconst 0, 1) := by decide +kernel
theorem dL_law_490 : decode cL_law 490 = .ok (.ireturn, 1) := by decide +kernel
theorem dL_law_491 : decode cL_law 491 = .ok (.aload_n 1, 1) := by decide +kernel
theorem dL_law_492 : decode cL_law 492 = .ok (.aload_n 0, 1) := by decide +kernel
theorem dL_law_493 : decode cL_law 493 = .ok (.iload_n 3, 1) := by decide +kernel
theorem dL_law_494 : decode cL_law 494 = .ok (.iconst 1, 1) := by decide +kernel
theorem dL_law_495 : decode cL_law 495 = .ok (.iadd, 1) := by decide +kernel
theorem dL_law_496 : decode cL_law 496 = .ok (.iaload, 1) := by decide +kernel
theorem dL_law_497 : decode cL_law 497 = .ok (.aload_n 0, 1) := by decide +kernel
theorem dL_law_498 : decode cL_law 498 = .ok (.iload_n 3, 1) := by decide +kernel
theorem dL_law_499 : decode cL_law 499 = .ok (.iconst 2, 1) := by decide +kernel
theorem dL_law_500 : decode cL_law 500 = .ok (.iadd, 1) := by decide +kernel
theorem dL_law_501 : decode cL_law 501 = .ok (.iaload, 1) := by decide +kernel
theorem dL_law_502 : decode cL_law 502 = .ok (.invokevirtual 39, 3) := by decide +kernel
theorem dL_law_505 : decode cL_law 505 = .ok (.aload_n 2, 1) := by decide +kernel
theorem dL_law_506 : decode cL_law 506 = .ok (.aload_n 0, 1) := by decide +kernel
theorem dL_law_507 : decode cL_law 507 = .ok (.iload_n 3, 1) := by decide +kernel
theorem dL_law_508 : decode cL_law 508 = .ok (.iconst 1, 1) := by decide +kernel
theorem dL_law_509 : decode cL_law 509 = .ok (.iadd, 1) := by decide +kernel
theorem dL_law_510 : decode cL_law 510 = .ok (.iaload, 1) := by decide +kernel
theorem dL_law_511 : decode cL_law 511 = .ok (.aload_n 0, 1) := by decide +kernel
theorem dL_law_512 : decode cL_law 512 = .ok (.iload_n 3, 1) := by decide +kernel
theorem dL_law_513 : decode cL_law 513 = .ok (.iconst 2, 1) := by decide +kernel
theorem dL_law_514 : decode cL_law 514 = .ok (.iadd, 1) := by decide +kernel
theorem dL_law_515 : decode cL_law 515 = .ok (.iaload, 1) := by decide +kernel
theorem dL_law_516 : decode cL_law 516 = .ok (.invokevirtual 42, 3) := by decide +kernel
theorem dL_law_519 : decode cL_law 519 = .ok (.if_icmp .eq 665, 3) := by decide +kernel
theorem dL_law_522 : decode cL_law 522 = .ok (.iconst 0, 1) := by decide +kernel
theorem dL_law_523 : decode cL_law 523 = .ok (.ireturn, 1) := by decide +kernel
theorem dL_law_524 : decode cL_law 524 = .ok (.aload_n 1, 1) := by decide +kernel
theorem dL_law_525 : decode cL_law 525 = .ok (.aload_n 0, 1) := by decide +kernel
theorem dL_law_526 : decode cL_law 526 = .ok (.iload_n 3, 1) := by decide +kernel
theorem dL_law_527 : decode cL_law 527 = .ok (.iconst 1, 1) := by decide +kernel
theorem dL_law_528 : decode cL_law 528 = .ok (.iadd, 1) := by decide +kernel
theorem dL_law_529 : decode cL_law 529 = .ok (.iaload, 1) := by decide +kernel
theorem dL_law_530 : decode cL_law 530 = .ok (.aload_n 0, 1) := by decide +kernel
theorem dL_law_531 : decode cL_law 531 = .ok (.iload_n 3, 1) := by decide +kernel
theorem dL_law_532 : decode cL_law 532 = .ok (.iconst 2, 1) := by decide +kernel
theorem dL_law_533 : decode cL_law 533 = .ok (.iadd, 1) := by decide +kernel
theorem dL_law_534 : decode cL_law 534 = .ok (.iaload, 1) := by decide +kernel
theorem dL_law_535 : decode cL_law 535 = .ok (.invokevirtual 43, 3) := by decide +kernel
theorem dL_law_538 : decode cL_law 538 = .ok (.aload_n 2, 1) := by decide +kernel
theorem dL_law_539 : decode cL_law 539 = .ok (.aload_n 0, 1) := by decide +kernel
theorem dL_law_540 : decode cL_law 540 = .ok (.iload_n 3, 1) := by decide +kernel
theorem dL_law_541 : decode cL_law 541 = .ok (.iconst 1, 1) := by decide +kernel
theorem dL_law_542 : decode cL_law 542 = .ok (.iadd, 1) := by decide +kernel
theorem dL_law_543 : decode cL_law 543 = .ok (.iaload, 1) := by decide +kernel
theorem dL_law_544 : decode cL_law 544 = .ok (.aload_n 0, 1) := by decide +kernel
theorem dL_law_545 : decode cL_law 545 = .ok (.iload_n 3, 1) := by decide +kernel
theorem dL_law_546 : decode cL_law 546 = .ok (.iconst 2, 1) := by decide +kernel
theorem dL_law_547 : decode cL_law 547 = .ok (.iadd, 1) := by decide +kernel
theorem dL_law_548 : decode cL_law 548 = .ok (.iaload, 1) := by decide +kernel
theorem dL_law_549 : decode cL_law 549 = .ok (.invokevirtual 46, 3) := by decide +kernel
theorem dL_law_552 : decode cL_law 552 = .ok (.if_icmp .eq 632, 3) := by decide +kernel
theorem dL_law_555 : decode cL_law 555 = .ok (.iconst 0, 1) := by decide +kernel
theorem dL_law_556 : decode cL_law 556 = .ok (.ireturn, 1) := by decide +kernel
theorem dL_law_557 : decode cL_law 557 = .ok (.aload_n 1, 1) := by decide +kernel
theorem dL_law_558 : decode cL_law 558 = .ok (.aload_n 0, 1) := by decide +kernel
theorem dL_law_559 : decode cL_law 559 = .ok (.iload_n 3, 1) := by decide +kernel
theorem dL_law_560 : decode cL_law 560 = .ok (.iconst 1, 1) := by decide +kernel
theorem dL_law_561 : decode cL_law 561 = .ok (.iadd, 1) := by decide +kernel
theorem dL_law_562 : decode cL_law 562 = .ok (.iaload, 1) := by decide +kernel
theorem dL_law_563 : decode cL_law 563 = .ok (.aload_n 0, 1) := by decide +kernel
theorem dL_law_564 : decode cL_law 564 = .ok (.iload_n 3, 1) := by decide +kernel
theorem dL_law_565 : decode cL_law 565 = .ok (.iconst 2, 1) := by decide +kernel
theorem dL_law_566 : decode cL_law 566 = .ok (.iadd, 1) := by decide +kernel
theorem dL_law_567 : decode cL_law 567 = .ok (.iaload, 1) := by decide +kernel
theorem dL_law_568 : decode cL_law 568 = .ok (.aload_n 0, 1) := by decide +kernel
theorem dL_law_569 : decode cL_law 569 = .ok (.iload_n 3, 1) := by decide +kernel
theorem dL_law_570 : decode cL_law 570 = .ok (.iconst 3, 1) := by decide +kernel
theorem dL_law_571 : decode cL_law 571 = .ok (.iadd, 1) := by decide +kernel
theorem dL_law_572 : decode cL_law 572 = .ok (.iaload, 1) := by decide +kernel
theorem dL_law_573 : decode cL_law 573 = .ok (.invokevirtual 47, 3) := by decide +kernel
theorem dL_law_576 : decode cL_law 576 = .ok (.aload_n 2, 1) := by decide +kernel
theorem dL_law_577 : decode cL_law 577 = .ok (.aload_n 0, 1) := by decide +kernel
theorem dL_law_578 : decode cL_law 578 = .ok (.iload_n 3, 1) := by decide +kernel
theorem dL_law_579 : decode cL_law 579 = .ok (.iconst 1, 1) := by decide +kernel
theorem dL_law_580 : decode cL_law 580 = .ok (.iadd, 1) := by decide +kernel
theorem dL_law_581 : decode cL_law 581 = .ok (.iaload, 1) := by decide +kernel
theorem dL_law_582 : decode cL_law 582 = .ok (.aload_n 0, 1) := by decide +kernel
theorem dL_law_583 : decode cL_law 583 = .ok (.iload_n 3, 1) := by decide +kernel
theorem dL_law_584 : decode cL_law 584 = .ok (.iconst 2, 1) := by decide +kernel
theorem dL_law_585 : decode cL_law 585 = .ok (.iadd, 1) := by decide +kernel
theorem dL_law_586 : decode cL_law 586 = .ok (.iaload, 1) := by decide +kernel
theorem dL_law_587 : decode cL_law 587 = .ok (.aload_n 0, 1) := by decide +kernel
theorem dL_law_588 : decode cL_law 588 = .ok (.iload_n 3, 1) := by decide +kernel
theorem dL_law_589 : decode cL_law 589 = .ok (.iconst 3, 1) := by decide +kernel
theorem dL_law_590 : decode cL_law 590 = .ok (.iadd, 1) := by decide +kernel
theorem dL_law_591 : decode cL_law 591 = .ok (.iaload, 1) := by decide +kernel
theorem dL_law_592 : decode cL_law 592 = .ok (.invokevirtual 51, 3) := by decide +kernel
theorem dL_law_595 : decode cL_law 595 = .ok (.if_icmp .eq 589, 3) := by decide +kernel
theorem dL_law_598 : decode cL_law 598 = .ok (.iconst 0, 1) := by decide +kernel
theorem dL_law_599 : decode cL_law 599 = .ok (.ireturn, 1) := by decide +kernel
theorem dL_law_600 : decode cL_law 600 = .ok (.aload_n 1, 1) := by decide +kernel
theorem dL_law_601 : decode cL_law 601 = .ok (.aload_n 0, 1) := by decide +kernel
theorem dL_law_602 : decode cL_law 602 = .ok (.iload_n 3, 1) := by decide +kernel
theorem dL_law_603 : decode cL_law 603 = .ok (.iconst 1, 1) := by decide +kernel
theorem dL_law_604 : decode cL_law 604 = .ok (.iadd, 1) := by decide +kernel
theorem dL_law_605 : decode cL_law 605 = .ok (.iaload, 1) := by decide +kernel
theorem dL_law_606 : decode cL_law 606 = .ok (.aload_n 0, 1) := by decide +kernel
theorem dL_law_607 : decode cL_law 607 = .ok (.iload_n 3, 1) := by decide +kernel
theorem dL_law_608 : decode cL_law 608 = .ok (.iconst 2, 1) := by decide +kernel
theorem dL_law_609 : decode cL_law 609 = .ok (.iadd, 1) := by decide +kernel
theorem dL_law_610 : decode cL_law 610 = .ok (.iaload, 1) := by decide +kernel
theorem dL_law_611 : decode cL_law 611 = .ok (.i2l, 1) := by decide +kernel
theorem dL_law_612 : decode cL_law 612 = .ok (.bipush 32, 2) := by decide +kernel
theorem dL_law_614 : decode cL_law 614 = .ok (.lshl, 1) := by decide +kernel
theorem dL_law_615 : decode cL_law 615 = .ok (.aload_n 0, 1) := by decide +kernel
theorem dL_law_616 : decode cL_law 616 = .ok (.iload_n 3, 1) := by decide +kernel
theorem dL_law_617 : decode cL_law 617 = .ok (.iconst 3, 1) := by decide +kernel
theorem dL_law_618 : decode cL_law 618 = .ok (.iadd, 1) := by decide +kernel
theorem dL_law_619 : decode cL_law 619 = .ok (.iaload, 1) := by decide +kernel
theorem dL_law_620 : decode cL_law 620 = .ok (.i2l, 1) := by decide +kernel
theorem dL_law_621 : decode cL_law 621 = .ok (.ldc2_w 13, 3) := by decide +kernel
theorem dL_law_624 : decode cL_law 624 = .ok (.land, 1) := by decide +kernel
theorem dL_law_625 : decode cL_law 625 = .ok (.lor, 1) := by decide +kernel
theorem dL_law_626 : decode cL_law 626 = .ok (.invokevirtual 52, 3) := by decide +kernel
theorem dL_law_629 : decode cL_law 629 = .ok (.aload_n 2, 1) := by decide +kernel
theorem dL_law_630 : decode cL_law 630 = .ok (.aload_n 0, 1) := by decide +kernel
theorem dL_law_631 : decode cL_law 631 = .ok (.iload_n 3, 1) := by decide +kernel
theorem dL_law_632 : decode cL_law 632 = .ok (.iconst 1, 1) := by decide +kernel
theorem dL_law_633 : decode cL_law 633 = .ok (.iadd, 1) := by decide +kernel
theorem dL_law_634 : decode cL_law 634 = .ok (.iaload, 1) := by decide +kernel
theorem dL_law_635 : decode cL_law 635 = .ok (.aload_n 0, 1) := by decide +kernel
theorem dL_law_636 : decode cL_law 636 = .ok (.iload_n 3, 1) := by decide +kernel
theorem dL_law_637 : decode cL_law 637 = .ok (.iconst 2, 1) := by decide +kernel
theorem dL_law_638 : decode cL_law 638 = .ok (.iadd, 1) := by decide +kernel
theorem dL_law_639 : decode cL_law 639 = .ok (.iaload, 1) := by decide +kernel
theorem dL_law_640 : decode cL_law 640 = .ok (.i2l, 1) := by decide +kernel
theorem dL_law_641 : decode cL_law 641 = .ok (.bipush 32, 2) := by decide +kernel
theorem dL_law_643 : decode cL_law 643 = .ok (.lshl, 1) := by decide +kernel
theorem dL_law_644 : decode cL_law 644 = .ok (.aload_n 0, 1) := by decide +kernel
theorem dL_law_645 : decode cL_law 645 = .ok (.iload_n 3, 1) := by decide +kernel
theorem dL_law_646 : decode cL_law 646 = .ok (.iconst 3, 1) := by decide +kernel
theorem dL_law_647 : decode cL_law 647 = .ok (.iadd, 1) := by decide +kernel
theorem dL_law_648 : decode cL_law 648 = .ok (.iaload, 1) := by decide +kernel
theorem dL_law_649 : decode cL_law 649 = .ok (.i2l, 1) := by decide +kernel
theorem dL_law_650 : decode cL_law 650 = .ok (.ldc2_w 13, 3) := by decide +kernel
theorem dL_law_653 : decode cL_law 653 = .ok (.land, 1) := by decide +kernel
theorem dL_law_654 : decode cL_law 654 = .ok (.lor, 1) := by decide +kernel
theorem dL_law_655 : decode cL_law 655 = .ok (.invokevirtual 56, 3) := by decide +kernel
theorem dL_law_658 : decode cL_law 658 = .ok (.if_icmp .eq 526, 3) := by decide +kernel
theorem dL_law_661 : decode cL_law 661 = .ok (.iconst 0, 1) := by decide +kernel
theorem dL_law_662 : decode cL_law 662 = .ok (.ireturn, 1) := by decide +kernel
theorem dL_law_663 : decode cL_law 663 = .ok (.aload_n 1, 1) := by decide +kernel
theorem dL_law_664 : decode cL_law 664 = .ok (.aload_n 0, 1) := by decide +kernel
theorem dL_law_665 : decode cL_law 665 = .ok (.iload_n 3, 1) := by decide +kernel
theorem dL_law_666 : decode cL_law 666 = .ok (.iconst 1, 1) := by decide +kernel
theorem dL_law_667 : decode cL_law 667 = .ok (.iadd, 1) := by decide +kernel
theorem dL_law_668 : decode cL_law 668 = .ok (.iaload, 1) := by decide +kernel
theorem dL_law_669 : decode cL_law 669 = .ok (.aload_n 0, 1) := by decide +kernel
theorem dL_law_670 : decode cL_law 670 = .ok (.iload_n 3, 1) := by decide +kernel
theorem dL_law_671 : decode cL_law 671 = .ok (.iconst 2, 1) := by decide +kernel
theorem dL_law_672 : decode cL_law 672 = .ok (.iadd, 1) := by decide +kernel
theorem dL_law_673 : decode cL_law 673 = .ok (.iaload, 1) := by decide +kernel
theorem dL_law_674 : decode cL_law 674 = .ok (.i2l, 1) := by decide +kernel
theorem dL_law_675 : decode cL_law 675 = .ok (.bipush 32, 2) := by decide +kernel
theorem dL_law_677 : decode cL_law 677 = .ok (.lshl, 1) := by decide +kernel
theorem dL_law_678 : decode cL_law 678 = .ok (.aload_n 0, 1) := by decide +kernel
theorem dL_law_679 : decode cL_law 679 = .ok (.iload_n 3, 1) := by decide +kernel
theorem dL_law_680 : decode cL_law 680 = .ok (.iconst 3, 1) := by decide +kernel
theorem dL_law_681 : decode cL_law 681 = .ok (.iadd, 1) := by decide +kernel
theorem dL_law_682 : decode cL_law 682 = .ok (.iaload, 1) := by decide +kernel
theorem dL_law_683 : decode cL_law 683 = .ok (.i2l, 1) := by decide +kernel
theorem dL_law_684 : decode cL_law 684 = .ok (.ldc2_w 13, 3) := by decide +kernel
theorem dL_law_687 : decode cL_law 687 = .ok (.land, 1) := by decide +kernel
theorem dL_law_688 : decode cL_law 688 = .ok (.lor, 1) := by decide +kernel
theorem dL_law_689 : decode cL_law 689 = .ok (.invokevirtual 57, 3) := by decide +kernel
theorem dL_law_692 : decode cL_law 692 = .ok (.aload_n 2, 1) := by decide +kernel
theorem dL_law_693 : decode cL_law 693 = .ok (.aload_n 0, 1) := by decide +kernel
theorem dL_law_694 : decode cL_law 694 = .ok (.iload_n 3, 1) := by decide +kernel
theorem dL_law_695 : decode cL_law 695 = .ok (.iconst 1, 1) := by decide +kernel
theorem dL_law_696 : decode cL_law 696 = .ok (.iadd, 1) := by decide +kernel
theorem dL_law_697 : decode cL_law 697 = .ok (.iaload, 1) := by decide +kernel
theorem dL_law_698 : decode cL_law 698 = .ok (.aload_n 0, 1) := by decide +kernel
theorem dL_law_699 : decode cL_law 699 = .ok (.iload_n 3, 1) := by decide +kernel
theorem dL_law_700 : decode cL_law 700 = .ok (.iconst 2, 1) := by decide +kernel
theorem dL_law_701 : decode cL_law 701 = .ok (.iadd, 1) := by decide +kernel
theorem dL_law_702 : decode cL_law 702 = .ok (.iaload, 1) := by decide +kernel
theorem dL_law_703 : decode cL_law 703 = .ok (.i2l, 1) := by decide +kernel
theorem dL_law_704 : decode cL_law 704 = .ok (.bipush 32, 2) := by decide +kernel
theorem dL_law_706 : decode cL_law 706 = .ok (.lshl, 1) := by decide +kernel
theorem dL_law_707 : decode cL_law 707 = .ok (.aload_n 0, 1) := by decide +kernel
theorem dL_law_708 : decode cL_law 708 = .ok (.iload_n 3, 1) := by decide +kernel
theorem dL_law_709 : decode cL_law 709 = .ok (.iconst 3, 1) := by decide +kernel
theorem dL_law_710 : decode cL_law 710 = .ok (.iadd, 1) := by decide +kernel
theorem dL_law_711 : decode cL_law 711 = .ok (.iaload, 1) := by decide +kernel
theorem dL_law_712 : decode cL_law 712 = .ok (.i2l, 1) := by decide +kernel
theorem dL_law_713 : decode cL_law 713 = .ok (.ldc2_w 13, 3) := by decide +kernel
theorem dL_law_716 : decode cL_law 716 = .ok (.land, 1) := by decide +kernel
theorem dL_law_717 : decode cL_law 717 = .ok (.lor, 1) := by decide +kernel
theorem dL_law_718 : decode cL_law 718 = .ok (.invokevirtual 60, 3) := by decide +kernel
theorem dL_law_721 : decode cL_law 721 = .ok (.if_icmp .eq 463, 3) := by decide +kernel
theorem dL_law_724 : decode cL_law 724 = .ok (.iconst 0, 1) := by decide +kernel
theorem dL_law_725 : decode cL_law 725 = .ok (.ireturn, 1) := by decide +kernel
theorem dL_law_726 : decode cL_law 726 = .ok (.aload_n 1, 1) := by decide +kernel
theorem dL_law_727 : decode cL_law 727 = .ok (.aload_n 0, 1) := by decide +kernel
theorem dL_law_728 : decode cL_law 728 = .ok (.iload_n 3, 1) := by decide +kernel
theorem dL_law_729 : decode cL_law 729 = .ok (.iconst 1, 1) := by decide +kernel
theorem dL_law_730 : decode cL_law 730 = .ok (.iadd, 1) := by decide +kernel
theorem dL_law_731 : decode cL_law 731 = .ok (.iaload, 1) := by decide +kernel
theorem dL_law_732 : decode cL_law 732 = .ok (.aload_n 0, 1) := by decide +kernel
theorem dL_law_733 : decode cL_law 733 = .ok (.iload_n 3, 1) := by decide +kernel
theorem dL_law_734 : decode cL_law 734 = .ok (.iconst 2, 1) := by decide +kernel
theorem dL_law_735 : decode cL_law 735 = .ok (.iadd, 1) := by decide +kernel
theorem dL_law_736 : decode cL_law 736 = .ok (.iaload, 1) := by decide +kernel
theorem dL_law_737 : decode cL_law 737 = .ok (.i2l, 1) := by decide +kernel
theorem dL_law_738 : decode cL_law 738 = .ok (.bipush 32, 2) := by decide +kernel
theorem dL_law_740 : decode cL_law 740 = .ok (.lshl, 1) := by decide +kernel
theorem dL_law_741 : decode cL_law 741 = .ok (.aload_n 0, 1) := by decide +kernel
theorem dL_law_742 : decode cL_law 742 = .ok (.iload_n 3, 1) := by decide +kernel
theorem dL_law_743 : decode cL_law 743 = .ok (.iconst 3, 1) := by decide +kernel
theorem dL_law_744 : decode cL_law 744 = .ok (.iadd, 1) := by decide +kernel
theorem dL_law_745 : decode cL_law 745 = .ok (.iaload, 1) := by decide +kernel
theorem dL_law_746 : decode cL_law 746 = .ok (.i2l, 1) := by decide +kernel
theorem dL_law_747 : decode cL_law 747 = .ok (.ldc2_w 13, 3) := by decide +kernel
theorem dL_law_750 : decode cL_law 750 = .ok (.land, 1) := by decide +kernel
theorem dL_law_751 : decode cL_law 751 = .ok (.lor, 1) := by decide +kernel
theorem dL_law_752 : decode cL_law 752 = .ok (.invokevirtual 61, 3) := by decide +kernel
theorem dL_law_755 : decode cL_law 755 = .ok (.aload_n 2, 1) := by decide +kernel
theorem dL_law_756 : decode cL_law 756 = .ok (.aload_n 0, 1) := by decide +kernel
theorem dL_law_757 : decode cL_law 757 = .ok (.iload_n 3, 1) := by decide +kernel
theorem dL_law_758 : decode cL_law 758 = .ok (.iconst 1, 1) := by decide +kernel
theorem dL_law_759 : decode cL_law 759 = .ok (.iadd, 1) := by decide +kernel
theorem dL_law_760 : decode cL_law 760 = .ok (.iaload, 1) := by decide +kernel
theorem dL_law_761 : decode cL_law 761 = .ok (.aload_n 0, 1) := by decide +kernel
theorem dL_law_762 : decode cL_law 762 = .ok (.iload_n 3, 1) := by decide +kernel
theorem dL_law_763 : decode cL_law 763 = .ok (.iconst 2, 1) := by decide +kernel
theorem dL_law_764 : decode cL_law 764 = .ok (.iadd, 1) := by decide +kernel
theorem dL_law_765 : decode cL_law 765 = .ok (.iaload, 1) := by decide +kernel
theorem dL_law_766 : decode cL_law 766 = .ok (.i2l, 1) := by decide +kernel
theorem dL_law_767 : decode cL_law 767 = .ok (.bipush 32, 2) := by decide +kernel
theorem dL_law_769 : decode cL_law 769 = .ok (.lshl, 1) := by decide +kernel
theorem dL_law_770 : decode cL_law 770 = .ok (.aload_n 0, 1) := by decide +kernel
theorem dL_law_771 : decode cL_law 771 = .ok (.iload_n 3, 1) := by decide +kernel
theorem dL_law_772 : decode cL_law 772 = .ok (.iconst 3, 1) := by decide +kernel
theorem dL_law_773 : decode cL_law 773 = .ok (.iadd, 1) := by decide +kernel
theorem dL_law_774 : decode cL_law 774 = .ok (.iaload, 1) := by decide +kernel
theorem dL_law_775 : decode cL_law 775 = .ok (.i2l, 1) := by decide +kernel
theorem dL_law_776 : decode cL_law 776 = .ok (.ldc2_w 13, 3) := by decide +kernel
theorem dL_law_779 : decode cL_law 779 = .ok (.land, 1) := by decide +kernel
theorem dL_law_780 : decode cL_law 780 = .ok (.lor, 1) := by decide +kernel
theorem dL_law_781 : decode cL_law 781 = .ok (.invokevirtual 64, 3) := by decide +kernel
theorem dL_law_784 : decode cL_law 784 = .ok (.if_icmp .eq 400, 3) := by decide +kernel
theorem dL_law_787 : decode cL_law 787 = .ok (.iconst 0, 1) := by decide +kernel
theorem dL_law_788 : decode cL_law 788 = .ok (.ireturn, 1) := by decide +kernel
theorem dL_law_789 : decode cL_law 789 = .ok (.aload_n 1, 1) := by decide +kernel
theorem dL_law_790 : decode cL_law 790 = .ok (.invokevirtual 65, 3) := by decide +kernel
theorem dL_law_793 : decode cL_law 793 = .ok (.aload_n 2, 1) := by decide +kernel
theorem dL_law_794 : decode cL_law 794 = .ok (.invokevirtual 69, 3) := by decide +kernel
theorem dL_law_797 : decode cL_law 797 = .ok (.if_icmp .eq 387, 3) := by decide +kernel
theorem dL_law_800 : decode cL_law 800 = .ok (.iconst 0, 1) := by decide +kernel
theorem dL_law_801 : decode cL_law 801 = .ok (.ireturn, 1) := by decide +kernel
theorem dL_law_802 : decode cL_law 802 = .ok (.aload_n 1, 1) := by decide +kernel
theorem dL_law_803 : decode cL_law 803 = .ok (.aload_n 0, 1) := by decide +kernel
theorem dL_law_804 : decode cL_law 804 = .ok (.iload_n 3, 1) := by decide +kernel
theorem dL_law_805 : decode cL_law 805 = .ok (.iconst 1, 1) := by decide +kernel
theorem dL_law_806 : decode cL_law 806 = .ok (.iadd, 1) := by decide +kernel
theorem dL_law_807 : decode cL_law 807 = .ok (.iaload, 1) := by decide +kernel
theorem dL_law_808 : decode cL_law 808 = .ok (.invokevirtual 70, 3) := by decide +kernel
theorem dL_law_811 : decode cL_law 811 = .ok (.aload_n 2, 1) := by decide +kernel
theorem dL_law_812 : decode cL_law 812 = .ok (.aload_n 0, 1) := by decide +kernel
theorem dL_law_813 : decode cL_law 813 = .ok (.iload_n 3, 1) := by decide +kernel
theorem dL_law_814 : decode cL_law 814 = .ok (.iconst 1, 1) := by decide +kernel
theorem dL_law_815 : decode cL_law 815 = .ok (.iadd, 1) := by decide +kernel
theorem dL_law_816 : decode cL_law 816 = .ok (.iaload, 1) := by decide +kernel
theorem dL_law_817 : decode cL_law 817 = .ok (.invokevirtual 74, 3) := by decide +kernel
theorem dL_law_820 : decode cL_law 820 = .ok (.lcmp, 1) := by decide +kernel
theorem dL_law_821 : decode cL_law 821 = .ok (.ifCond .eq 363, 3) := by decide +kernel
theorem dL_law_824 : decode cL_law 824 = .ok (.iconst 0, 1) := by decide +kernel
theorem dL_law_825 : decode cL_law 825 = .ok (.ireturn, 1) := by decide +kernel
theorem dL_law_826 : decode cL_law 826 = .ok (.aload_n 1, 1) := by decide +kernel
theorem dL_law_827 : decode cL_law 827 = .ok (.aload_n 0, 1) := by decide +kernel
theorem dL_law_828 : decode cL_law 828 = .ok (.iload_n 3, 1) := by decide +kernel
theorem dL_law_829 : decode cL_law 829 = .ok (.iconst 1, 1) := by decide +kernel
theorem dL_law_830 : decode cL_law 830 = .ok (.iadd, 1) := by decide +kernel
theorem dL_law_831 : decode cL_law 831 = .ok (.iaload, 1) := by decide +kernel
theorem dL_law_832 : decode cL_law 832 = .ok (.invokevirtual 75, 3) := by decide +kernel
theorem dL_law_835 : decode cL_law 835 = .ok (.aload_n 2, 1) := by decide +kernel
theorem dL_law_836 : decode cL_law 836 = .ok (.aload_n 0, 1) := by decide +kernel
theorem dL_law_837 : decode cL_law 837 = .ok (.iload_n 3, 1) := by decide +kernel
theorem dL_law_838 : decode cL_law 838 = .ok (.iconst 1, 1) := by decide +kernel
theorem dL_law_839 : decode cL_law 839 = .ok (.iadd, 1) := by decide +kernel
theorem dL_law_840 : decode cL_law 840 = .ok (.iaload, 1) := by decide +kernel
theorem dL_law_841 : decode cL_law 841 = .ok (.invokevirtual 79, 3) := by decide +kernel
theorem dL_law_844 : decode cL_law 844 = .ok (.if_icmp .eq 340, 3) := by decide +kernel
theorem dL_law_847 : decode cL_law 847 = .ok (.iconst 0, 1) := by decide +kernel
theorem dL_law_848 : decode cL_law 848 = .ok (.ireturn, 1) := by decide +kernel
theorem dL_law_849 : decode cL_law 849 = .ok (.aload_n 1, 1) := by decide +kernel
theorem dL_law_850 : decode cL_law 850 = .ok (.aload_n 0, 1) := by decide +kernel
theorem dL_law_851 : decode cL_law 851 = .ok (.iload_n 3, 1) := by decide +kernel
theorem dL_law_852 : decode cL_law 852 = .ok (.iconst 1, 1) := by decide +kernel
theorem dL_law_853 : decode cL_law 853 = .ok (.iadd, 1) := by decide +kernel
theorem dL_law_854 : decode cL_law 854 = .ok (.iaload, 1) := by decide +kernel
theorem dL_law_855 : decode cL_law 855 = .ok (.invokevirtual 80, 3) := by decide +kernel
theorem dL_law_858 : decode cL_law 858 = .ok (.aload_n 2, 1) := by decide +kernel
theorem dL_law_859 : decode cL_law 859 = .ok (.aload_n 0, 1) := by decide +kernel
theorem dL_law_860 : decode cL_law 860 = .ok (.iload_n 3, 1) := by decide +kernel
theorem dL_law_861 : decode cL_law 861 = .ok (.iconst 1, 1) := by decide +kernel
theorem dL_law_862 : decode cL_law 862 = .ok (.iadd, 1) := by decide +kernel
theorem dL_law_863 : decode cL_law 863 = .ok (.iaload, 1) := by decide +kernel
theorem dL_law_864 : decode cL_law 864 = .ok (.invokevirtual 83, 3) := by decide +kernel
theorem dL_law_867 : decode cL_law 867 = .ok (.lcmp, 1) := by decide +kernel
theorem dL_law_868 : decode cL_law 868 = .ok (.ifCond .eq 316, 3) := by decide +kernel
theorem dL_law_871 : decode cL_law 871 = .ok (.iconst 0, 1) := by decide +kernel
theorem dL_law_872 : decode cL_law 872 = .ok (.ireturn, 1) := by decide +kernel
theorem dL_law_873 : decode cL_law 873 = .ok (.aload_n 1, 1) := by decide +kernel
theorem dL_law_874 : decode cL_law 874 = .ok (.aload_n 0, 1) := by decide +kernel
theorem dL_law_875 : decode cL_law 875 = .ok (.iload_n 3, 1) := by decide +kernel
theorem dL_law_876 : decode cL_law 876 = .ok (.iconst 1, 1) := by decide +kernel
theorem dL_law_877 : decode cL_law 877 = .ok (.iadd, 1) := by decide +kernel
theorem dL_law_878 : decode cL_law 878 = .ok (.iaload, 1) := by decide +kernel
theorem dL_law_879 : decode cL_law 879 = .ok (.invokevirtual 84, 3) := by decide +kernel
theorem dL_law_882 : decode cL_law 882 = .ok (.aload_n 2, 1) := by decide +kernel
theorem dL_law_883 : decode cL_law 883 = .ok (.aload_n 0, 1) := by decide +kernel
theorem dL_law_884 : decode cL_law 884 = .ok (.iload_n 3, 1) := by decide +kernel
theorem dL_law_885 : decode cL_law 885 = .ok (.iconst 1, 1) := by decide +kernel
theorem dL_law_886 : decode cL_law 886 = .ok (.iadd, 1) := by decide +kernel
theorem dL_law_887 : decode cL_law 887 = .ok (.iaload, 1) := by decide +kernel
theorem dL_law_888 : decode cL_law 888 = .ok (.invokevirtual 87, 3) := by decide +kernel
theorem dL_law_891 : decode cL_law 891 = .ok (.if_icmp .eq 293, 3) := by decide +kernel
theorem dL_law_894 : decode cL_law 894 = .ok (.iconst 0, 1) := by decide +kernel
theorem dL_law_895 : decode cL_law 895 = .ok (.ireturn, 1) := by decide +kernel
theorem dL_law_896 : decode cL_law 896 = .ok (.aload_n 1, 1) := by decide +kernel
theorem dL_law_897 : decode cL_law 897 = .ok (.aload_n 0, 1) := by decide +kernel
theorem dL_law_898 : decode cL_law 898 = .ok (.iload_n 3, 1) := by decide +kernel
theorem dL_law_899 : decode cL_law 899 = .ok (.iconst 1, 1) := by decide +kernel
theorem dL_law_900 : decode cL_law 900 = .ok (.iadd, 1) := by decide +kernel
theorem dL_law_901 : decode cL_law 901 = .ok (.iaload, 1) := by decide +kernel
theorem dL_law_902 : decode cL_law 902 = .ok (.aload_n 0, 1) := by decide +kernel
theorem dL_law_903 : decode cL_law 903 = .ok (.iload_n 3, 1) := by decide +kernel
theorem dL_law_904 : decode cL_law 904 = .ok (.iconst 2, 1) := by decide +kernel
theorem dL_law_905 : decode cL_law 905 = .ok (.iadd, 1) := by decide +kernel
theorem dL_law_906 : decode cL_law 906 = .ok (.iaload, 1) := by decide +kernel
theorem dL_law_907 : decode cL_law 907 = .ok (.invokevirtual 88, 3) := by decide +kernel
theorem dL_law_910 : decode cL_law 910 = .ok (.aload_n 2, 1) := by decide +kernel
theorem dL_law_911 : decode cL_law 911 = .ok (.aload_n 0, 1) := by decide +kernel
theorem dL_law_912 : decode cL_law 912 = .ok (.iload_n 3, 1) := by decide +kernel
theorem dL_law_913 : decode cL_law 913 = .ok (.iconst 1, 1) := by decide +kernel
theorem dL_law_914 : decode cL_law 914 = .ok (.iadd, 1) := by decide +kernel
theorem dL_law_915 : decode cL_law 915 = .ok (.iaload, 1) := by decide +kernel
theorem dL_law_916 : decode cL_law 916 = .ok (.aload_n 0, 1) := by decide +kernel
theorem dL_law_917 : decode cL_law 917 = .ok (.iload_n 3, 1) := by decide +kernel
theorem dL_law_918 : decode cL_law 918 = .ok (.iconst 2, 1) := by decide +kernel
theorem dL_law_919 : decode cL_law 919 = .ok (.iadd, 1) := by decide +kernel
theorem dL_law_920 : decode cL_law 920 = .ok (.iaload, 1) := by decide +kernel
theorem dL_law_921 : decode cL_law 921 = .ok (.invokevirtual 92, 3) := by decide +kernel
theorem dL_law_924 : decode cL_law 924 = .ok (.lcmp, 1) := by decide +kernel
theorem dL_law_925 : decode cL_law 925 = .ok (.ifCond .eq 259, 3) := by decide +kernel
theorem dL_law_928 : decode cL_law 928 = .ok (.iconst 0, 1) := by decide +kernel
theorem dL_law_929 : decode cL_law 929 = .ok (.ireturn, 1) := by decide +kernel
theorem dL_law_930 : decode cL_law 930 = .ok (.aload_n 1, 1) := by decide +kernel
theorem dL_law_931 : decode cL_law 931 = .ok (.aload_n 0, 1) := by decide +kernel
theorem dL_law_932 : decode cL_law 932 = .ok (.iload_n 3, 1) := by decide +kernel
theorem dL_law_933 : decode cL_law 933 = .ok (.iconst 1, 1) := by decide +kernel
theorem dL_law_934 : decode cL_law 934 = .ok (.iadd, 1) := by decide +kernel
theorem dL_law_935 : decode cL_law 935 = .ok (.iaload, 1) := by decide +kernel
theorem dL_law_936 : decode cL_law 936 = .ok (.invokevirtual 93, 3) := by decide +kernel
theorem dL_law_939 : decode cL_law 939 = .ok (.aload_n 2, 1) := by decide +kernel
theorem dL_law_940 : decode cL_law 940 = .ok (.aload_n 0, 1) := by decide +kernel
theorem dL_law_941 : decode cL_law 941 = .ok (.iload_n 3, 1) := by decide +kernel
theorem dL_law_942 : decode cL_law 942 = .ok (.iconst 1, 1) := by decide +kernel
theorem dL_law_943 : decode cL_law 943 = .ok (.iadd, 1) := by decide +kernel
theorem dL_law_944 : decode cL_law 944 = .ok (.iaload, 1) := by decide +kernel
theorem dL_law_945 : decode cL_law 945 = .ok (.invokevirtual 96, 3) := by decide +kernel
theorem dL_law_948 : decode cL_law 948 = .ok (.if_icmp .eq 236, 3) := by decide +kernel
theorem dL_law_951 : decode cL_law 951 = .ok (.iconst 0, 1) := by decide +kernel
theorem dL_law_952 : decode cL_law 952 = .ok (.ireturn, 1) := by decide +kernel
theorem dL_law_953 : decode cL_law 953 = .ok (.aload_n 1, 1) := by decide +kernel
theorem dL_law_954 : decode cL_law 954 = .ok (.aload_n 0, 1) := by decide +kernel
theorem dL_law_955 : decode cL_law 955 = .ok (.iload_n 3, 1) := by decide +kernel
theorem dL_law_956 : decode cL_law 956 = .ok (.iconst 1, 1) := by decide +kernel
theorem dL_law_957 : decode cL_law 957 = .ok (.iadd, 1) := by decide +kernel
theorem dL_law_958 : decode cL_law 958 = .ok (.iaload, 1) := by decide +kernel
theorem dL_law_959 : decode cL_law 959 = .ok (.invokevirtual 97, 3) := by decide +kernel
theorem dL_law_962 : decode cL_law 962 = .ok (.aload_n 2, 1) := by decide +kernel
theorem dL_law_963 : decode cL_law 963 = .ok (.aload_n 0, 1) := by decide +kernel
theorem dL_law_964 : decode cL_law 964 = .ok (.iload_n 3, 1) := by decide +kernel
theorem dL_law_965 : decode cL_law 965 = .ok (.iconst 1, 1) := by decide +kernel
theorem dL_law_966 : decode cL_law 966 = .ok (.iadd, 1) := by decide +kernel
theorem dL_law_967 : decode cL_law 967 = .ok (.iaload, 1) := by decide +kernel
theorem dL_law_968 : decode cL_law 968 = .ok (.invokevirtual 100, 3) := by decide +kernel
theorem dL_law_971 : decode cL_law 971 = .ok (.lcmp, 1) := by decide +kernel
theorem dL_law_972 : decode cL_law 972 = .ok (.ifCond .eq 212, 3) := by decide +kernel
theorem dL_law_975 : decode cL_law 975 = .ok (.iconst 0, 1) := by decide +kernel
theorem dL_law_976 : decode cL_law 976 = .ok (.ireturn, 1) := by decide +kernel
theorem dL_law_977 : decode cL_law 977 = .ok (.aload_n 1, 1) := by decide +kernel
theorem dL_law_978 : decode cL_law 978 = .ok (.aload_n 0, 1) := by decide +kernel
theorem dL_law_979 : decode cL_law 979 = .ok (.iload_n 3, 1) := by decide +kernel
theorem dL_law_980 : decode cL_law 980 = .ok (.iconst 1, 1) := by decide +kernel
theorem dL_law_981 : decode cL_law 981 = .ok (.iadd, 1) := by decide +kernel
theorem dL_law_982 : decode cL_law 982 = .ok (.iaload, 1) := by decide +kernel
theorem dL_law_983 : decode cL_law 983 = .ok (.aload_n 0, 1) := by decide +kernel
theorem dL_law_984 : decode cL_law 984 = .ok (.iload_n 3, 1) := by decide +kernel
theorem dL_law_985 : decode cL_law 985 = .ok (.iconst 2, 1) := by decide +kernel
theorem dL_law_986 : decode cL_law 986 = .ok (.iadd, 1) := by decide +kernel
theorem dL_law_987 : decode cL_law 987 = .ok (.iaload, 1) := by decide +kernel
theorem dL_law_988 : decode cL_law 988 = .ok (.invokevirtual 101, 3) := by decide +kernel
theorem dL_law_991 : decode cL_law 991 = .ok (.aload_n 2, 1) := by decide +kernel
theorem dL_law_992 : decode cL_law 992 = .ok (.aload_n 0, 1) := by decide +kernel
theorem dL_law_993 : decode cL_law 993 = .ok (.iload_n 3, 1) := by decide +kernel
theorem dL_law_994 : decode cL_law 994 = .ok (.iconst 1, 1) := by decide +kernel
theorem dL_law_995 : decode cL_law 995 = .ok (.iadd, 1) := by decide +kernel
theorem dL_law_996 : decode cL_law 996 = .ok (.iaload, 1) := by decide +kernel
theorem dL_law_997 : decode cL_law 997 = .ok (.aload_n 0, 1) := by decide +kernel
theorem dL_law_998 : decode cL_law 998 = .ok (.iload_n 3, 1) := by decide +kernel
theorem dL_law_999 : decode cL_law 999 = .ok (.iconst 2, 1) := by decide +kernel
theorem dL_law_1000 : decode cL_law 1000 = .ok (.iadd, 1) := by decide +kernel
theorem dL_law_1001 : decode cL_law 1001 = .ok (.iaload, 1) := by decide +kernel
theorem dL_law_1002 : decode cL_law 1002 = .ok (.invokevirtual 104, 3) := by decide +kernel
theorem dL_law_1005 : decode cL_law 1005 = .ok (.if_icmp .eq 179, 3) := by decide +kernel
theorem dL_law_1008 : decode cL_law 1008 = .ok (.iconst 0, 1) := by decide +kernel
theorem dL_law_1009 : decode cL_law 1009 = .ok (.ireturn, 1) := by decide +kernel
theorem dL_law_1010 : decode cL_law 1010 = .ok (.aload_n 1, 1) := by decide +kernel
theorem dL_law_1011 : decode cL_law 1011 = .ok (.aload_n 0, 1) := by decide +kernel
theorem dL_law_1012 : decode cL_law 1012 = .ok (.iload_n 3, 1) := by decide +kernel
theorem dL_law_1013 : decode cL_law 1013 = .ok (.iconst 1, 1) := by decide +kernel
theorem dL_law_1014 : decode cL_law 1014 = .ok (.iadd, 1) := by decide +kernel
theorem dL_law_1015 : decode cL_law 1015 = .ok (.iaload, 1) := by decide +kernel
theorem dL_law_1016 : decode cL_law 1016 = .ok (.aload_n 0, 1) := by decide +kernel
theorem dL_law_1017 : decode cL_law 1017 = .ok (.iload_n 3, 1) := by decide +kernel
theorem dL_law_1018 : decode cL_law 1018 = .ok (.iconst 2, 1) := by decide +kernel
theorem dL_law_1019 : decode cL_law 1019 = .ok (.iadd, 1) := by decide +kernel
theorem dL_law_1020 : decode cL_law 1020 = .ok (.iaload, 1) := by decide +kernel
theorem dL_law_1021 : decode cL_law 1021 = .ok (.invokevirtual 105, 3) := by decide +kernel
theorem dL_law_1024 : decode cL_law 1024 = .ok (.aload_n 2, 1) := by decide +kernel
theorem dL_law_1025 : decode cL_law 1025 = .ok (.aload_n 0, 1) := by decide +kernel
theorem dL_law_1026 : decode cL_law 1026 = .ok (.iload_n 3, 1) := by decide +kernel
theorem dL_law_1027 : decode cL_law 1027 = .ok (.iconst 1, 1) := by decide +kernel
theorem dL_law_1028 : decode cL_law 1028 = .ok (.iadd, 1) := by decide +kernel
theorem dL_law_1029 : decode cL_law 1029 = .ok (.iaload, 1) := by decide +kernel
theorem dL_law_1030 : decode cL_law 1030 = .ok (.aload_n 0, 1) := by decide +kernel
theorem dL_law_1031 : decode cL_law 1031 = .ok (.iload_n 3, 1) := by decide +kernel
theorem dL_law_1032 : decode cL_law 1032 = .ok (.iconst 2, 1) := by decide +kernel
theorem dL_law_1033 : decode cL_law 1033 = .ok (.iadd, 1) := by decide +kernel
theorem dL_law_1034 : decode cL_law 1034 = .ok (.iaload, 1) := by decide +kernel
theorem dL_law_1035 : decode cL_law 1035 = .ok (.invokevirtual 108, 3) := by decide +kernel
theorem dL_law_1038 : decode cL_law 1038 = .ok (.lcmp, 1) := by decide +kernel
theorem dL_law_1039 : decode cL_law 1039 = .ok (.ifCond .eq 145, 3) := by decide +kernel
theorem dL_law_1042 : decode cL_law 1042 = .ok (.iconst 0, 1) := by decide +kernel
theorem dL_law_1043 : decode cL_law 1043 = .ok (.ireturn, 1) := by decide +kernel
theorem dL_law_1044 : decode cL_law 1044 = .ok (.aload_n 1, 1) := by decide +kernel
theorem dL_law_1045 : decode cL_law 1045 = .ok (.aload_n 0, 1) := by decide +kernel
theorem dL_law_1046 : decode cL_law 1046 = .ok (.iload_n 3, 1) := by decide +kernel
theorem dL_law_1047 : decode cL_law 1047 = .ok (.iconst 1, 1) := by decide +kernel
theorem dL_law_1048 : decode cL_law 1048 = .ok (.iadd, 1) := by decide +kernel
theorem dL_law_1049 : decode cL_law 1049 = .ok (.iaload, 1) := by decide +kernel
theorem dL_law_1050 : decode cL_law 1050 = .ok (.invokevirtual 109, 3) := by decide +kernel
theorem dL_law_1053 : decode cL_law 1053 = .ok (.aload_n 2, 1) := by decide +kernel
theorem dL_law_1054 : decode cL_law 1054 = .ok (.aload_n 0, 1) := by decide +kernel
theorem dL_law_1055 : decode cL_law 1055 = .ok (.iload_n 3, 1) := by decide +kernel
theorem dL_law_1056 : decode cL_law 1056 = .ok (.iconst 1, 1) := by decide +kernel
theorem dL_law_1057 : decode cL_law 1057 = .ok (.iadd, 1) := by decide +kernel
theorem dL_law_1058 : decode cL_law 1058 = .ok (.iaload, 1) := by decide +kernel
theorem dL_law_1059 : decode cL_law 1059 = .ok (.invokevirtual 112, 3) := by decide +kernel
theorem dL_law_1062 : decode cL_law 1062 = .ok (.lcmp, 1) := by decide +kernel
theorem dL_law_1063 : decode cL_law 1063 = .ok (.ifCond .eq 121, 3) := by decide +kernel
theorem dL_law_1066 : decode cL_law 1066 = .ok (.iconst 0, 1) := by decide +kernel
theorem dL_law_1067 : decode cL_law 1067 = .ok (.ireturn, 1) := by decide +kernel
theorem dL_law_1068 : decode cL_law 1068 = .ok (.aload_n 1, 1) := by decide +kernel
theorem dL_law_1069 : decode cL_law 1069 = .ok (.aload_n 0, 1) := by decide +kernel
theorem dL_law_1070 : decode cL_law 1070 = .ok (.iload_n 3, 1) := by decide +kernel
theorem dL_law_1071 : decode cL_law 1071 = .ok (.iconst 1, 1) := by decide +kernel
theorem dL_law_1072 : decode cL_law 1072 = .ok (.iadd, 1) := by decide +kernel
theorem dL_law_1073 : decode cL_law 1073 = .ok (.iaload, 1) := by decide +kernel
theorem dL_law_1074 : decode cL_law 1074 = .ok (.invokevirtual 113, 3) := by decide +kernel
theorem dL_law_1077 : decode cL_law 1077 = .ok (.aload_n 2, 1) := by decide +kernel
theorem dL_law_1078 : decode cL_law 1078 = .ok (.aload_n 0, 1) := by decide +kernel
theorem dL_law_1079 : decode cL_law 1079 = .ok (.iload_n 3, 1) := by decide +kernel
theorem dL_law_1080 : decode cL_law 1080 = .ok (.iconst 1, 1) := by decide +kernel
theorem dL_law_1081 : decode cL_law 1081 = .ok (.iadd, 1) := by decide +kernel
theorem dL_law_1082 : decode cL_law 1082 = .ok (.iaload, 1) := by decide +kernel
theorem dL_law_1083 : decode cL_law 1083 = .ok (.invokevirtual 116, 3) := by decide +kernel
theorem dL_law_1086 : decode cL_law 1086 = .ok (.if_icmp .eq 98, 3) := by decide +kernel
theorem dL_law_1089 : decode cL_law 1089 = .ok (.iconst 0, 1) := by decide +kernel
theorem dL_law_1090 : decode cL_law 1090 = .ok (.ireturn, 1) := by decide +kernel
theorem dL_law_1091 : decode cL_law 1091 = .ok (.aload_n 1, 1) := by decide +kernel
theorem dL_law_1092 : decode cL_law 1092 = .ok (.aload_n 0, 1) := by decide +kernel
theorem dL_law_1093 : decode cL_law 1093 = .ok (.iload_n 3, 1) := by decide +kernel
theorem dL_law_1094 : decode cL_law 1094 = .ok (.iconst 1, 1) := by decide +kernel
theorem dL_law_1095 : decode cL_law 1095 = .ok (.iadd, 1) := by decide +kernel
theorem dL_law_1096 : decode cL_law 1096 = .ok (.iaload, 1) := by decide +kernel
theorem dL_law_1097 : decode cL_law 1097 = .ok (.invokevirtual 117, 3) := by decide +kernel
theorem dL_law_1100 : decode cL_law 1100 = .ok (.aload_n 2, 1) := by decide +kernel
theorem dL_law_1101 : decode cL_law 1101 = .ok (.aload_n 0, 1) := by decide +kernel
theorem dL_law_1102 : decode cL_law 1102 = .ok (.iload_n 3, 1) := by decide +kernel
theorem dL_law_1103 : decode cL_law 1103 = .ok (.iconst 1, 1) := by decide +kernel
theorem dL_law_1104 : decode cL_law 1104 = .ok (.iadd, 1) := by decide +kernel
theorem dL_law_1105 : decode cL_law 1105 = .ok (.iaload, 1) := by decide +kernel
theorem dL_law_1106 : decode cL_law 1106 = .ok (.invokevirtual 120, 3) := by decide +kernel
theorem dL_law_1109 : decode cL_law 1109 = .ok (.if_icmp .eq 75, 3) := by decide +kernel
theorem dL_law_1112 : decode cL_law 1112 = .ok (.iconst 0, 1) := by decide +kernel
theorem dL_law_1113 : decode cL_law 1113 = .ok (.ireturn, 1) := by decide +kernel
theorem dL_law_1114 : decode cL_law 1114 = .ok (.aload_n 1, 1) := by decide +kernel
theorem dL_law_1115 : decode cL_law 1115 = .ok (.aload_n 0, 1) := by decide +kernel
theorem dL_law_1116 : decode cL_law 1116 = .ok (.iload_n 3, 1) := by decide +kernel
theorem dL_law_1117 : decode cL_law 1117 = .ok (.iconst 1, 1) := by decide +kernel
theorem dL_law_1118 : decode cL_law 1118 = .ok (.iadd, 1) := by decide +kernel
theorem dL_law_1119 : decode cL_law 1119 = .ok (.iaload, 1) := by decide +kernel
theorem dL_law_1120 : decode cL_law 1120 = .ok (.invokevirtual 121, 3) := by decide +kernel
theorem dL_law_1123 : decode cL_law 1123 = .ok (.aload_n 2, 1) := by decide +kernel
theorem dL_law_1124 : decode cL_law 1124 = .ok (.aload_n 0, 1) := by decide +kernel
theorem dL_law_1125 : decode cL_law 1125 = .ok (.iload_n 3, 1) := by decide +kernel
theorem dL_law_1126 : decode cL_law 1126 = .ok (.iconst 1, 1) := by decide +kernel
theorem dL_law_1127 : decode cL_law 1127 = .ok (.iadd, 1) := by decide +kernel
theorem dL_law_1128 : decode cL_law 1128 = .ok (.iaload, 1) := by decide +kernel
theorem dL_law_1129 : decode cL_law 1129 = .ok (.invokevirtual 124, 3) := by decide +kernel
theorem dL_law_1132 : decode cL_law 1132 = .ok (.if_icmp .eq 52, 3) := by decide +kernel
theorem dL_law_1135 : decode cL_law 1135 = .ok (.iconst 0, 1) := by decide +kernel
theorem dL_law_1136 : decode cL_law 1136 = .ok (.ireturn, 1) := by decide +kernel
theorem dL_law_1137 : decode cL_law 1137 = .ok (.aload_n 1, 1) := by decide +kernel
theorem dL_law_1138 : decode cL_law 1138 = .ok (.aload_n 0, 1) := by decide +kernel
theorem dL_law_1139 : decode cL_law 1139 = .ok (.iload_n 3, 1) := by decide +kernel
theorem dL_law_1140 : decode cL_law 1140 = .ok (.iconst 1, 1) := by decide +kernel
theorem dL_law_1141 : decode cL_law 1141 = .ok (.iadd, 1) := by decide +kernel
theorem dL_law_1142 : decode cL_law 1142 = .ok (.iaload, 1) := by decide +kernel
theorem dL_law_1143 : decode cL_law 1143 = .ok (.invokevirtual 125, 3) := by decide +kernel
theorem dL_law_1146 : decode cL_law 1146 = .ok (.aload_n 2, 1) := by decide +kernel
theorem dL_law_1147 : decode cL_law 1147 = .ok (.aload_n 0, 1) := by decide +kernel
theorem dL_law_1148 : decode cL_law 1148 = .ok (.iload_n 3, 1) := by decide +kernel
theorem dL_law_1149 : decode cL_law 1149 = .ok (.iconst 1, 1) := by decide +kernel
theorem dL_law_1150 : decode cL_law 1150 = .ok (.iadd, 1) := by decide +kernel
theorem dL_law_1151 : decode cL_law 1151 = .ok (.iaload, 1) := by decide +kernel
theorem dL_law_1152 : decode cL_law 1152 = .ok (.invokevirtual 128, 3) := by decide +kernel
theorem dL_law_1155 : decode cL_law 1155 = .ok (.lcmp, 1) := by decide +kernel
theorem dL_law_1156 : decode cL_law 1156 = .ok (.ifCond .eq 28, 3) := by decide +kernel
theorem dL_law_1159 : decode cL_law 1159 = .ok (.iconst 0, 1) := by decide +kernel
theorem dL_law_1160 : decode cL_law 1160 = .ok (.ireturn, 1) := by decide +kernel
theorem dL_law_1161 : decode cL_law 1161 = .ok (.aload_n 1, 1) := by decide +kernel
theorem dL_law_1162 : decode cL_law 1162 = .ok (.aload_n 0, 1) := by decide +kernel
theorem dL_law_1163 : decode cL_law 1163 = .ok (.iload_n 3, 1) := by decide +kernel
theorem dL_law_1164 : decode cL_law 1164 = .ok (.iconst 1, 1) := by decide +kernel
theorem dL_law_1165 : decode cL_law 1165 = .ok (.iadd, 1) := by decide +kernel
theorem dL_law_1166 : decode cL_law 1166 = .ok (.iaload, 1) := by decide +kernel
theorem dL_law_1167 : decode cL_law 1167 = .ok (.invokevirtual 129, 3) := by decide +kernel
theorem dL_law_1170 : decode cL_law 1170 = .ok (.aload_n 2, 1) := by decide +kernel
theorem dL_law_1171 : decode cL_law 1171 = .ok (.aload_n 0, 1) := by decide +kernel
theorem dL_law_1172 : decode cL_law 1172 = .ok (.iload_n 3, 1) := by decide +kernel
theorem dL_law_1173 : decode cL_law 1173 = .ok (.iconst 1, 1) := by decide +kernel
theorem dL_law_1174 : decode cL_law 1174 = .ok (.iadd, 1) := by decide +kernel
theorem dL_law_1175 : decode cL_law 1175 = .ok (.iaload, 1) := by decide +kernel
theorem dL_law_1176 : decode cL_law 1176 = .ok (.invokevirtual 132, 3) := by decide +kernel
theorem dL_law_1179 : decode cL_law 1179 = .ok (.if_icmp .eq 5, 3) := by decide +kernel
theorem dL_law_1182 : decode cL_law 1182 = .ok (.iconst 0, 1) := by decide +kernel
theorem dL_law_1183 : decode cL_law 1183 = .ok (.ireturn, 1) := by decide +kernel
theorem dL_law_1184 : decode cL_law 1184 = .ok (.iinc 3 5, 3) := by decide +kernel
theorem dL_law_1187 : decode cL_law 1187 = .ok (.goto (-1169), 3) := by decide +kernel
theorem dL_law_1190 : decode cL_law 1190 = .ok (.iconst 1, 1) := by decide +kernel
theorem dL_law_1191 : decode cL_law 1191 = .ok (.ireturn, 1) := by decide +kernel
abbrev vwCl : List vw_C := [(RX0, TX0, 5), (RX4, TX4, 5), (RX6, TX6, 7), (RX7, TX7, 17)]
end
section
/-! HELP: calls and returns in three kinds: pure (heap as it was), reading, and changing a known world -/
/-- the links between the table and the classes inside it -/
def NW (U : State) : Prop := va_Nw (.fieldLinkNest RX6 76 "SnapTable$Axis" "at" "[J" "SnapTable") U ∧ va_Nw (.fieldLinkNest RX6 68 "SnapTable$Axis" "step" "J" "SnapTable") U ∧ va_Nw (.fieldLinkNest RX6 128 "SnapTable$Trail" "points" "[I" "SnapTable") U ∧ va_Nw (.fieldLinkNest RX6 132 "SnapTable$Trail" "widths" "[J" "SnapTable") U ∧ va_Nw (.fieldLinkNest RX6 134 "SnapTable$Trail" "heights" "[J" "SnapTable") U ∧ va_Nw (.fieldLinkNest RX6 121 "SnapTable$Trail" "size" "I" "SnapTable") U ∧ va_Nw (.methodLinkNest RX6 23 yX4_init "SnapTable") U
theorem NW.same {u U : State} (h : u.vm = U.vm) (n : NW u) : NW U := ⟨va_Nw.same rfl h n.1, va_Nw.same rfl h n.2.1, va_Nw.same rfl h n.2.2.1, va_Nw.same rfl h n.2.2.2.1, va_Nw.same rfl h n.2.2.2.2.1, va_Nw.same rfl h n.2.2.2.2.2.1, va_Nw.same rfl h n.2.2.2.2.2.2⟩
theorem NW.warm {s U : State} (h : s.WarmedH U.vm) (n : NW s) : NW U := ⟨va_Nw.warmF h n.1, va_Nw.warmF h n.2.1, va_Nw.warmF h n.2.2.1, va_Nw.warmF h n.2.2.2.1, va_Nw.warmF h n.2.2.2.2.1, va_Nw.warmF h n.2.2.2.2.2.1, va_Nw.warmM h n.2.2.2.2.2.2⟩
/-- what a reading method takes: its arguments, its cells -/
def pR (D : va_G) (cl : List vw_C) (tys : List (ClassId × FieldType)) (wc : va_W) (av : List Value) : Array Value → State → Prop := va_Pc av (fun U => va_P D cl wc U.heap ∧ va_K D cl tys U ∧ NW U)
/-- what a changing method takes -/
def pM (D : va_G) (cl : List vw_C) (tys : List (ClassId × FieldType)) (wc : va_W) (sz : Nat) (av : List Value) : Array Value → State → Prop := va_Pc av (fun U => U.heap.size = sz ∧ va_P D cl wc U.heap ∧ va_K D cl tys U ∧ va_D (fun _ => True) wc ∧ NW U)
/-- what a changing method gives: its answer, its cells as they are then, nothing else changed -/
def qM (D : va_G) (cl : List vw_C) (wc : va_W) (sz : Nat) (ro : Option Value) (w1 : va_W) : Array Value → State → Outcome → State → Prop := fun _ st oc t => oc = .returned ro ∧ va_P D cl w1 t.heap ∧ va_D (va_A wc sz) w1 ∧ va_F (va_A wc sz) st t
theorem hw_part {D : va_G} {cl : List vw_C} {w0 wc : va_W} {H : Heap} (hP : va_P D cl w0 H) (isC : List Nat) (hC : isC.map (fun i => w0[i]?) = wc.map some) : va_P D cl wc H := by
  intro k q hk
  have h1 : (isC.map (fun i => w0[i]?))[k]? = some (some q) := by rw [hC, List.getElem?_map, hk]; rfl
  rw [List.getElem?_map] at h1
  cases hi : isC[k]? with
  | none => rw [hi] at h1; cases h1
  | some i => rw [hi] at h1; exact hP i q (Option.some.inj h1)
section HelpA
variable {p : Program} {l : Launch} {e : Env} {R : Room} {s : State} {m : MethodId} {args : Array Value} {below : List Frame} {meth : Method} {c : Code} {H : Heap} {locs : List Loc} {cells slots : Nat} {Q : State → Prop}
variable {y : MethodName} {bytes cc : ByteArray} {maxL nL n index pc : Nat} {ret : Option FieldType} {ws : List Cond} {rm : Room} {Ts : List Cond} {own C : String} {b : Nat} {As rest st0 : List Value} {r : Value} {ls : Array Slot}
theorem hc_S (S : CallFix p m c cc nL s args Ts own) (hM : Met l y ws rm (fun v _ => v = As.toArray) (k2_QcV r) 0 0 (fun _ => False)) (cw : CallB R s args own index y bytes maxL ret ws rm 0 0 n ∧ (Cond.static y).before args s = true) (hn : As.length = n) (hsize : ls.size = nL) (hst : st0 = As.reverse ++ rest) (hW : (rest.map fun v => v.category).sum ≤ 8) (hdg : decode cc pc = .ok (.invokestatic index, 3)) (hf : cells ≤ R.cells ∧ slots ≤ R.slots)
    (k : W p l e R s m args below meth c H locs cells slots Q (F0 m (pc + 3) ls (r :: rest))) : W p l e R s m args below meth c H locs cells slots Q (F0 m pc ls st0) :=
  W.callV (W.runS S hM cw preEq rfl hn hsize hst (lv_room hW) hdg hf) k
theorem hc_V {D : va_G} {cl : List vw_C} {tys : List (ClassId × FieldType)} {wc : va_W} {ci N : Nat} {T : u_T} {fs : List Value} (S : CallFix p m c cc nL s args Ts own) (hM : Met l y ws rm (pR D cl tys wc (.ref b :: As)) (k2_QcV r) 0 0 (fun _ => False)) (cw : CallW R s args own C index y bytes maxL ret ws rm 0 0 n) (hP : va_P D cl wc H) (hK : va_K D cl tys s) (hNW : NW s) (hci : cl[ci]? = some (C, T, N)) (h0 : wc[0]? = some (b, .inr (ci, fs))) (hn : As.length = n) (hsize : ls.size = nL) (hst : st0 = As.reverse ++ .ref b :: rest) (hW : (rest.map fun v => v.category).sum ≤ 8) (hdg : decode cc pc = .ok (.invokevirtual index, 3)) (hf : cells ≤ R.cells ∧ slots ≤ R.slots)
    (k : W p l e R s m args below meth c H locs cells slots Q (F0 m (pc + 3) ls (r :: rest))) : W p l e R s m args below meth c H locs cells slots Q (F0 m pc ls st0) :=
  W.callV (W.runV S hM cw ⟨fun a U g mk q => by obtain ⟨q0, qP, qK, qN⟩ := q; exact ⟨q0, qP, va_K.moved (u := U) (U := U.calling g mk a) (Vm.Alike.refl U.vm) qK, NW.same (u := U) (U := U.calling g mk a) rfl qN⟩, va_recv hK hP hci h0, fun U hU hW => ⟨rfl, by rw [hU]; exact hP, va_K.moved hW.alike hK, NW.warm hW hNW⟩⟩ rfl hn hsize hst (lv_room hW) hdg hf) k
theorem hc_M {D : va_G} {cl : List vw_C} {tys : List (ClassId × FieldType)} {w0 wc wr w1 : va_W} {ci N : Nat} {T : u_T} {fs : List Value} {A0 : Nat → Prop} {H0 : Heap} {ro : Option Value} (S : CallFix p m c cc nL s args Ts own) (hM : Met l y ws rm (pM D cl tys wc H.size (.ref b :: As)) (qM D cl wc H.size ro w1) 0 0 (va_A wc H.size)) (cw : CallW R s args own C index y bytes maxL ret ws rm 0 0 n) (hP : va_P D cl w0 H) (hD : va_D A0 w0) (hK : va_K D cl tys s) (hNW : NW s) (hS : va_S A0 H0 H locs) (hA : ∀ q, H0.size ≤ q → A0 q) (isC isR : List Nat) (hC : isC.map (fun i => w0[i]?) = wc.map some) (hR : isR.map (fun i => w0[i]?) = wr.map some) (hn1 : va_nd isC = true) (hn2 : va_nd isR = true) (hdis : ∀ i ∈ isR, i ∉ isC) (hci : cl[ci]? = some (C, T, N)) (h0 : wc[0]? = some (b, .inr (ci, fs))) (hn : As.length = n) (hsize : ls.size = nL) (hst : st0 = As.reverse ++ .ref b :: rest) (hW : (rest.map fun v => v.category).sum ≤ 8) (hdg : decode cc pc = .ok (.invokevirtual index, 3)) (hf : cells ≤ R.cells ∧ slots ≤ R.slots)
    (k : ∀ (H1 : Heap) (locs1 : List Loc), va_P D cl (wr ++ w1) H1 → va_D A0 (wr ++ w1) → va_S A0 H0 H1 locs1 → W p l e R s m args below meth c H1 locs1 cells slots Q (F0 m (pc + 3) ls (ro.toList ++ rest))) : W p l e R s m args below meth c H locs cells slots Q (F0 m pc ls st0) := by
  have hPc : va_P D cl wc H := hw_part hP isC hC
  have hDc := hD.sub isC hn1 hC
  have hF := va_free (wc := wc) hD hS hA isC hC
  have hr := va_runV (As := As) (rest := rest) (g := F0 m pc ls st0) (H := H) (cells := cells) (slots := slots) (locs := locs) (e := e) (below := below) (meth := meth) S hM cw ⟨fun a U g mk q => by obtain ⟨q0, q1, qP, qK, qD, qN⟩ := q; exact ⟨q0, q1, qP, va_K.moved (u := U) (U := U.calling g mk a) (Vm.Alike.refl U.vm) qK, qD, NW.same (u := U) (U := U.calling g mk a) rfl qN⟩, va_recv hK hPc hci h0, fun U hU hW => ⟨rfl, by rw [hU], by rw [hU]; exact hPc, va_K.moved hW.alike hK, hDc.weaken (fun _ _ _ _ => trivial), NW.warm hW hNW⟩⟩ rfl hn hsize hst (lv_room hW) hdg hf
  intro T hT X
  obtain ⟨v, st₀, t, T', L, hh0, X', hL, e1, e2, ⟨hv, hP1, hD1, hz, hk⟩, st⟩ := hr T hT X
  cases hv
  rw [hh0] at hz hk
  obtain ⟨hP2, hD2⟩ := va_join (wr := wr) (w1 := w1) hP hD isC isR hC hR hn2 hdis hk hF hP1 hD1
  obtain ⟨t2, a1, b1⟩ := k t.heap (locs ++ L) hP2 hD2 ⟨Nat.le_trans hS.1 hz, fun q h1 h2 => by rw [hk q (Nat.lt_of_lt_of_le h1 hS.1) (fun z => h2 (hF q z))]; exact hS.2.1 q h1 h2, fun q hq => by
      rcases List.mem_append.mp hq with h | h
      · exact hS.2.2 q h
      · exact hF _ (hL q h)⟩ T' e1 X'
  exact ⟨t2, st t2 a1, b1⟩
/-- the end of a changing method -/
theorem rM_i {D : va_G} {cl : List vw_C} {w0 w w1 : va_W} {v : Int32} {r0 : Value} (hx : p.tables.exec = Jvm.exec) (hb : c.code = cc) (hr : meth.sig.returnType = some .int) (hlocks : meth.locks = false) (hP : va_P D cl w H) (hD : va_D (va_A w0 s.heap.size) w) (hS : va_S (va_A w0 s.heap.size) s.heap H locs) (e1 : Value.int v = r0) (e2 : w = w1) (hdg : decode cc pc = .ok (.ireturn, 1)) : W p l e R s m args below meth c H locs cells slots (MQ below (qM D cl w0 s.heap.size (some r0) w1) args s cells slots (va_A w0 s.heap.size)) (F0 m pc ls [.int v]) := by
  subst e1; subst e2
  exact W.iret hx hb hr (fun t ht _ => ⟨rfl, by rw [ht]; exact hP, hD, hS.F ht⟩) hS.2.2 hdg
theorem rM_v {D : va_G} {cl : List vw_C} {w0 w w1 : va_W} (hx : p.tables.exec = Jvm.exec) (hb : c.code = cc) (hr : meth.sig.returnType = none) (hlocks : meth.locks = false) (hP : va_P D cl w H) (hD : va_D (va_A w0 s.heap.size) w) (hS : va_S (va_A w0 s.heap.size) s.heap H locs) (e2 : w = w1) (hdg : decode cc pc = .ok (.return_, 1)) : W p l e R s m args below meth c H locs cells slots (MQ below (qM D cl w0 s.heap.size none w1) args s cells slots (va_A w0 s.heap.size)) (F0 m pc ls []) := by
  subst e2
  exact W.vret hx hb hr (fun t ht _ => ⟨rfl, by rw [ht]; exact hP, hD, hS.F ht⟩) hS.2.2 hdg
end HelpA
/-! numbers that are none: the kit's word and the laws' word -/
theorem nn64 {r : UInt64} (h : FP.dIsNaN r = false) : vf_n64 r := by
  have h1 : ¬ (9218868437227405312 < r.toNat % 2 ^ 63) := fun q => by
    have := (Jvm.FP.Core.isNaN_bits r).mpr q
    rw [show Jvm.FP.Core.dIsNaN r = FP.dIsNaN r from rfl, h] at this
    cases this
  have h2 := Jvm.FP.Core.mask_toNat r
  unfold vf_n64
  rw [UInt64.le_iff_toNat_le, h2]
  exact Nat.le_of_not_lt h1
theorem nn32 {r : UInt32} (h : FP.fIsNaN r = false) : vf_n32 r := by
  have h1 : ¬ (2139095040 < r.toNat % 2 ^ 31) := fun q => by
    have := (Jvm.FP.Core.isNaN_bits32 r).mpr q
    rw [show Jvm.FP.Core.fIsNaN r = FP.fIsNaN r from rfl, h] at this
    cases this
  have h2 := Jvm.FP.Core.mask_toNat32 r
  unfold vf_n32
  rw [UInt32.le_iff_toNat_le, h2]
  exact Nat.le_of_not_lt h1
/-! counted loops: i goes up to b, or down to -1; n is what is left of the count -/
def LU (b : Int) (n : Nat) (i : Int32) : Prop := 0 ≤ i.toInt ∧ i.toInt ≤ b ∧ i.toInt + n = b + 1
def LD (b : Int) (n : Nat) (i : Int32) : Prop := -1 ≤ i.toInt ∧ i.toInt ≤ b ∧ i.toInt + 2 = n
theorem i32_up {i : Int32} (h0 : 0 ≤ i.toInt) (h : i.toInt < 2147483647) : (i + 1).toInt = i.toInt + 1 := by
  rw [Int32.toInt_add]
  have : (1 : Int32).toInt = 1 := by decide
  rw [this, Int.bmod_eq_of_le (by omega) (by omega)]
theorem i32_down {i : Int32} (h0 : -2147483648 < i.toInt) : (i + (-1)).toInt = i.toInt - 1 := by
  rw [Int32.toInt_add]
  have h1 : (-1 : Int32).toInt = -1 := by decide
  have h2 := i.toInt_lt
  have h3 := i.le_toInt
  rw [h1, Int.bmod_eq_of_le (by omega) (by omega)]
  omega
theorem LU.z {b : Int} {i : Int32} (h : LU b 0 i) : False := by unfold LU at h; omega
theorem LD.z {b : Int} {i : Int32} (h : LD b 0 i) : False := by unfold LD at h; omega
theorem LU.up {b : Int} {n : Nat} {i B : Int32} (hB : B.toInt = b) (h : LU b (n + 1) i) (hc : ¬ B ≤ i) : LU b n (i + 1) := by
  have hb := B.toInt_lt
  have hc' : i.toInt < b := by rw [Int32.le_iff_toInt_le] at hc; omega
  unfold LU at h ⊢
  rw [i32_up h.1 (by omega)]
  omega
theorem LU.vin {b : Int} {n N : Nat} {i B : Int32} (h : LU b n i) (hB : B.toInt = b) (hc : ¬ B ≤ i) (hN : b ≤ N) : vp_in i N := by
  rw [vp_in_iff]
  rw [Int32.le_iff_toInt_le] at hc
  unfold LU at h
  omega
theorem LU.vin1 {b : Int} {n N : Nat} {i B : Int32} (h : LU b n i) (hB : B.toInt = b) (hc : ¬ B ≤ i) (hN : b < N) : vp_in (i + 1) N := by
  have hb := B.toInt_lt
  rw [vp_in_iff]
  rw [Int32.le_iff_toInt_le] at hc
  unfold LU at h
  rw [i32_up h.1 (by omega)]
  omega
theorem LD.down {b : Int} {n : Nat} {i : Int32} (h : LD b (n + 1) i) (hc : ¬ i < 0) : LD b n (i + (-1)) := by
  rw [Int32.lt_iff_toInt_lt] at hc
  have : (0 : Int32).toInt = 0 := by decide
  unfold LD at h ⊢
  rw [i32_down (by omega)]
  omega
end
section
theorem wb_tb (n : Nat) : (lN n).toBitVec = BitVec.ofNat 64 n := rfl
theorem wb_inj {a b : Int64} (h : a.toBitVec = b.toBitVec) : a = b := Int64.toBitVec_inj.mp h
theorem wb_tn {n : Nat} (h : n < 2 ^ 64) : (lN n).toBitVec.toNat = n := by rw [wb_tb, BitVec.toNat_ofNat, Nat.mod_eq_of_lt h]
theorem wb_of (x : Int64) : ∃ n, n < 2 ^ 64 ∧ x = lN n := ⟨x.toBitVec.toNat, x.toBitVec.isLt, wb_inj (by rw [wb_tb]; simp)⟩
theorem wb_of32 (x : Int32) : ∃ n, n < 2 ^ 32 ∧ x = nI n := ⟨x.toBitVec.toNat, x.toBitVec.isLt, Int32.toBitVec_inj.mp (by show _ = BitVec.ofNat 32 _; simp)⟩
theorem wb_c : ∀ k, k < 64 → ((nI k).toInt64 &&& 63) = lN k := by decide +kernel
theorem wb_cu : ∀ k, k < 64 → ((nI k).toInt64.toUInt64 &&& Int64.toUInt64 63) = UInt64.ofNat k := by decide +kernel
theorem wb_sm : ∀ k, k < 64 → (BitVec.ofNat 64 k).smod 64 = BitVec.ofNat 64 k := by decide +kernel
theorem wb_pw {a b : Nat} (h : a ≤ b) : 2 ^ b = 2 ^ a * 2 ^ (b - a) := by rw [← Nat.pow_add]; congr 1; omega
theorem wb_lt2 {a b : Nat} (h : a < b) : 2 ^ a < 2 ^ b := Nat.pow_lt_pow_right (by decide) h
theorem wb_mod (n : Nat) : lN n = lN (n % 2 ^ 64) := wb_inj (by rw [wb_tb, wb_tb]; apply BitVec.eq_of_toNat_eq; rw [BitVec.toNat_ofNat, BitVec.toNat_ofNat, Nat.mod_mod])
theorem wb_shr {n k : Nat} (hn : n < 2 ^ 64) (hk : k < 64) : ((lN n).toUInt64 >>> ((nI k).toInt64.toUInt64 &&& Int64.toUInt64 63)).toInt64 = lN (n / 2 ^ k) := by
  rw [wb_cu k hk]
  apply wb_inj
  apply BitVec.eq_of_toNat_eq
  show ((lN n).toUInt64 >>> UInt64.ofNat k).toNat = (BitVec.ofNat 64 _).toNat
  have h1 : (UInt64.ofNat k).toNat = k := by
    show (BitVec.ofNat 64 k).toNat = k
    rw [BitVec.toNat_ofNat, Nat.mod_eq_of_lt (by omega)]
  have h2 : (lN n).toUInt64.toNat = n := wb_tn hn
  rw [UInt64.toNat_shiftRight, h1, h2, Nat.mod_eq_of_lt hk, Nat.shiftRight_eq_div_pow, BitVec.toNat_ofNat, Nat.mod_eq_of_lt (Nat.lt_of_le_of_lt (Nat.div_le_self _ _) hn)]
theorem wb_shl (n : Nat) {k : Nat} (hk : k < 64) : lN n <<< ((nI k).toInt64 &&& 63) = lN (n * 2 ^ k) := by
  rw [wb_c k hk]
  apply wb_inj
  rw [Int64.toBitVec_shiftLeft, wb_tb, wb_tb, wb_tb, wb_sm k hk]
  apply BitVec.eq_of_toNat_eq
  rw [BitVec.shiftLeft_eq', BitVec.toNat_shiftLeft, BitVec.toNat_ofNat, BitVec.toNat_ofNat, BitVec.toNat_ofNat, Nat.mod_eq_of_lt (show k < 2 ^ 64 by omega), Nat.shiftLeft_eq, Nat.mul_mod, Nat.mod_mod, ← Nat.mul_mod]
theorem wb_and {a b : Nat} (ha : a < 2 ^ 64) (hb : b < 2 ^ 64) : lN a &&& lN b = lN (a &&& b) := by
  apply wb_inj
  rw [Int64.toBitVec_and, wb_tb, wb_tb, wb_tb]
  apply BitVec.eq_of_toNat_eq
  rw [BitVec.toNat_and, BitVec.toNat_ofNat, BitVec.toNat_ofNat, BitVec.toNat_ofNat, Nat.mod_eq_of_lt ha, Nat.mod_eq_of_lt hb, Nat.mod_eq_of_lt (Nat.and_lt_two_pow _ hb)]
theorem wb_or {a b : Nat} (ha : a < 2 ^ 64) (hb : b < 2 ^ 64) : lN a ||| lN b = lN (a ||| b) := by
  apply wb_inj
  rw [Int64.toBitVec_or, wb_tb, wb_tb, wb_tb]
  apply BitVec.eq_of_toNat_eq
  rw [BitVec.toNat_or, BitVec.toNat_ofNat, BitVec.toNat_ofNat, BitVec.toNat_ofNat, Nat.mod_eq_of_lt ha, Nat.mod_eq_of_lt hb, Nat.mod_eq_of_lt (Nat.or_lt_two_pow ha hb)]
theorem wb_mask {n k : Nat} (hn : n < 2 ^ 64) (hk : k < 64) : lN n &&& lN (2 ^ k - 1) = lN (n % 2 ^ k) := by
  rw [wb_and hn (by have := wb_lt2 hk; omega), Nat.and_two_pow_sub_one_eq_mod]
theorem wb_a1 {n : Nat} (hn : n < 2 ^ 64) : lN n &&& 1 = lN (n % 2) := wb_mask (k := 1) hn (by decide)
theorem wb_bit {n k : Nat} (hn : n < 2 ^ 64) (hk : k < 64) : ((lN n).toUInt64 >>> ((nI k).toInt64.toUInt64 &&& Int64.toUInt64 63)).toInt64 &&& 1 = lN (n / 2 ^ k % 2) := by
  rw [wb_shr hn hk, wb_a1 (Nat.lt_of_le_of_lt (Nat.div_le_self _ _) hn)]
theorem wb_xor {q k : Nat} (hk : k < 63) (h : 2 ^ k ≤ q) (h2 : q < 2 ^ (k + 1)) : lN q ^^^ lN (2 ^ k) = lN (q - 2 ^ k) := by
  obtain ⟨r, rfl⟩ : ∃ r, q = 2 ^ k + r := ⟨q - 2 ^ k, by omega⟩
  have hr : r < 2 ^ k := by rw [Nat.pow_succ] at h2; omega
  have hx : (2 ^ k + r) ^^^ 2 ^ k = r := by
    apply Nat.eq_of_testBit_eq
    intro i
    rw [Nat.testBit_xor, Nat.testBit_two_pow]
    rcases Nat.lt_trichotomy i k with h | h | h
    · rw [Nat.testBit_two_pow_add_gt h]
      simp [show ¬ k = i by omega]
    · subst h
      rw [Nat.testBit_two_pow_add_eq]
      simp
    · have a1 : 2 ^ (k + 1) ≤ 2 ^ i := Nat.pow_le_pow_right (by decide) h
      rw [Nat.testBit_lt_two_pow (show 2 ^ k + r < 2 ^ i by omega), Nat.testBit_lt_two_pow (show r < 2 ^ i by omega)]
      simp [show ¬ k = i by omega]
  have b1 := wb_lt2 (show k + 1 < 64 by omega)
  have b2 := wb_lt2 (show k < 64 by omega)
  apply wb_inj
  rw [Int64.toBitVec_xor, wb_tb, wb_tb, wb_tb]
  apply BitVec.eq_of_toNat_eq
  rw [BitVec.toNat_xor, BitVec.toNat_ofNat, BitVec.toNat_ofNat, BitVec.toNat_ofNat, Nat.mod_eq_of_lt (by omega : 2 ^ k + r < 2 ^ 64), Nat.mod_eq_of_lt b2, hx, Nat.add_sub_cancel_left, Nat.mod_eq_of_lt (by omega)]
end
section
/-! THE STATES: an axis (least, most, step, at), a trail (next, size, points, widths, heights), the table (done, refused, met, widths, heights, trail, guides), the model -/
abbrev AS : Type := Int64 × Int64 × Int64 × (Nat → Int64)
abbrev RS : Type := Int32 × Int32 × (Nat → Int32) × (Nat → Int64) × (Nat → Int64)
abbrev TS : Type := Int32 × Int32 × Int32 × AS × AS × RS × (Nat → Int64)
abbrev MS : Type := (Nat → Int64) × (Nat → Int32) × Int64 × Int64 × Int64 × Int32 × Int32 × Int32 × (Nat → Int64) × (Nat → Int32) × (Nat → Int32) × (Nat → Int64) × (Nat → Int32) × Int32 × Int32 × Int32 × Int32
abbrev WT (ad : Nat → Nat) (ca : Nat → ClassId) (u : TS) : va_W := [((ad 0), .inr (2, [.ref (ad 1), .ref (ad 2), .ref (ad 3), .ref (ad 4), .int u.1, .int u.2.1, .int u.2.2.1])), ((ad 1), .inr (0, [.int 0, .ref (ad 5), .long u.2.2.2.1.1, .long u.2.2.2.1.2.1, .long u.2.2.2.1.2.2.1])), ((ad 2), .inr (0, [.int 1, .ref (ad 6), .long u.2.2.2.2.1.1, .long u.2.2.2.2.1.2.1, .long u.2.2.2.2.1.2.2.1])), ((ad 3), .inr (1, [.ref (ad 7), .ref (ad 8), .ref (ad 9), .int u.2.2.2.2.2.1.1, .int u.2.2.2.2.2.1.2.1])), ((ad 4), .inl ((ca 4), 4, .inr (.inl u.2.2.2.2.2.2))), ((ad 5), .inl ((ca 5), 8, .inr (.inl u.2.2.2.1.2.2.2))), ((ad 6), .inl ((ca 6), 8, .inr (.inl u.2.2.2.2.1.2.2.2))), ((ad 7), .inl ((ca 7), 16, .inl u.2.2.2.2.2.1.2.2.1)), ((ad 8), .inl ((ca 8), 16, .inr (.inl u.2.2.2.2.2.1.2.2.2.1))), ((ad 9), .inl ((ca 9), 16, .inr (.inl u.2.2.2.2.2.1.2.2.2.2)))]
abbrev WA (x0 x1 : Nat) (k1 : ClassId) (sl : Int32) (u : AS) : va_W := [(x0, .inr (0, [.int sl, .ref x1, .long u.1, .long u.2.1, .long u.2.2.1])), (x1, .inl (k1, 8, .inr (.inl u.2.2.2)))]
abbrev WR (x0 x1 x2 x3 : Nat) (k1 k2 k3 : ClassId) (u : RS) : va_W := [(x0, .inr (1, [.ref x1, .ref x2, .ref x3, .int u.1, .int u.2.1])), (x1, .inl (k1, 16, .inl u.2.2.1)), (x2, .inl (k2, 16, .inr (.inl u.2.2.2.1))), (x3, .inl (k3, 16, .inr (.inl u.2.2.2.2)))]
abbrev WM (bd : Nat → Nat) (cb : Nat → ClassId) (u : MS) : va_W := [((bd 0), .inr (3, [.ref (bd 1), .ref (bd 2), .long u.2.2.1, .long u.2.2.2.1, .long u.2.2.2.2.1, .int u.2.2.2.2.2.1, .int u.2.2.2.2.2.2.1, .int u.2.2.2.2.2.2.2.1, .ref (bd 3), .ref (bd 4), .ref (bd 5), .ref (bd 6), .ref (bd 7), .int u.2.2.2.2.2.2.2.2.2.2.2.2.2.1, .int u.2.2.2.2.2.2.2.2.2.2.2.2.2.2.1, .int u.2.2.2.2.2.2.2.2.2.2.2.2.2.2.2.1, .int u.2.2.2.2.2.2.2.2.2.2.2.2.2.2.2.2])), ((bd 1), .inl ((cb 1), 8, .inr (.inl u.1))), ((bd 2), .inl ((cb 2), 8, .inl u.2.1)), ((bd 3), .inl ((cb 3), 4, .inr (.inl u.2.2.2.2.2.2.2.2.1))), ((bd 4), .inl ((cb 4), 4, .inl u.2.2.2.2.2.2.2.2.2.1)), ((bd 5), .inl ((cb 5), 17, .inl u.2.2.2.2.2.2.2.2.2.2.1)), ((bd 6), .inl ((cb 6), 17, .inr (.inl u.2.2.2.2.2.2.2.2.2.2.2.1))), ((bd 7), .inl ((cb 7), 17, .inl u.2.2.2.2.2.2.2.2.2.2.2.2.1))]
end
section
def mX1_isNone (a0 : Int64) : Int32 := (if (lg_cmp (a0 &&& (9223372036854775807 : Int64)) (9218868437227405312 : Int64)) ≤ 0 then (0 : Int32) else (1 : Int32))
set_option maxHeartbeats 4000000 in
set_option maxRecDepth 100000 in
theorem ct_X1_isNone (l : Launch) (a0 : Int64) : Met l yX1_isNone wsX1_isNone { frames := 0, cells := 0, slots := 0, locals := 0 } (fun v _ => v = ([.long a0] : List Value).toArray) (k2_QcV (.int (mX1_isNone a0))) 0 0 (fun _ => False) := by
  refine Met.ofW (cc := cX1_isNone) (maxL := 2) (ret := (some .boolean)) (by decide) rfl ?_
  intro p e s m args below meth c s₁ B hml hv
  subst hv
  have hx := B.exec
  have hb := B.bytes
  have hr := B.returns
  have hts := atoms_spec (ws := wsX1_isNone) B.pre
  have hown : s.vm.findClass RX1 = some m.cls := findClass_of_methodNamed B.named
  have hlocks := B.notSynchronized
  have hl := lv_entry ([.long a0]) (n := 2) (Nat.le_of_ble_eq_true rfl)
  rw [lg_entry_eq]
  generalize (lg_sl ([.long a0]) ++ List.replicate (2 - (lg_sl ([.long a0])).length) Slot.unset).toArray = ls at hl ⊢
  have hl : lv_has ls 2 [(0, .long a0)] := hl
  refine lv_lload_n hx hb dX1_isNone_0 rfl (lv_at hl 0 rfl) ?_
  refine lv_ldc2 (v := (9223372036854775807 : Int64)) hx hb hown (hts (.constantLong RX1 9 (9223372036854775807)) (by decide +kernel)) dX1_isNone_1 ?_
  refine lv_land hx hb dX1_isNone_4 ?_
  refine lv_ldc2 (v := (9218868437227405312 : Int64)) hx hb hown (hts (.constantLong RX1 11 (9218868437227405312)) (by decide +kernel)) dX1_isNone_5 ?_
  refine W.lcmp hx hb dX1_isNone_8 ?_
  refine lv_if_le (tgt := 16) hx hb dX1_isNone_9 (by decide) (fun c_1 => ?_) (fun c_1 => ?_)
  · refine lv_iconst (v := (0 : Int32)) hx hb dX1_isNone_16 (by decide) ?_
    exact W.zret (v := (0 : Int32)) hx hb hr rfl (fun t ht _ => ⟨by rw [mX1_isNone, if_pos c_1], ht⟩) (fun _ h => by cases h) dX1_isNone_17
  · refine lv_iconst (v := (1 : Int32)) hx hb dX1_isNone_12 (by decide) ?_
    refine lv_goto (tgt := 17) hx hb dX1_isNone_13 (by decide) ?_
    exact W.zret (v := (1 : Int32)) hx hb hr rfl (fun t ht _ => ⟨by rw [mX1_isNone, if_neg c_1], ht⟩) (fun _ h => by cases h) dX1_isNone_17

def mX1_isInfinite (a0 : Int64) : Int32 := (if (lg_cmp (a0 &&& (9223372036854775807 : Int64)) (9218868437227405312 : Int64)) = 0 then (1 : Int32) else (0 : Int32))
set_option maxHeartbeats 4000000 in
set_option maxRecDepth 100000 in
theorem ct_X1_isInfinite (l : Launch) (a0 : Int64) : Met l yX1_isInfinite wsX1_isInfinite { frames := 0, cells := 0, slots := 0, locals := 0 } (fun v _ => v = ([.long a0] : List Value).toArray) (k2_QcV (.int (mX1_isInfinite a0))) 0 0 (fun _ => False) := by
  refine Met.ofW (cc := cX1_isInfinite) (maxL := 2) (ret := (some .boolean)) (by decide) rfl ?_
  intro p e s m args below meth c s₁ B hml hv
  subst hv
  have hx := B.exec
  have hb := B.bytes
  have hr := B.returns
  have hts := atoms_spec (ws := wsX1_isInfinite) B.pre
  have hown : s.vm.findClass RX1 = some m.cls := findClass_of_methodNamed B.named
  have hlocks := B.notSynchronized
  have hl := lv_entry ([.long a0]) (n := 2) (Nat.le_of_ble_eq_true rfl)
  rw [lg_entry_eq]
  generalize (lg_sl ([.long a0]) ++ List.replicate (2 - (lg_sl ([.long a0])).length) Slot.unset).toArray = ls at hl ⊢
  have hl : lv_has ls 2 [(0, .long a0)] := hl
  refine lv_lload_n hx hb dX1_isInfinite_0 rfl (lv_at hl 0 rfl) ?_
  refine lv_ldc2 (v := (9223372036854775807 : Int64)) hx hb hown (hts (.constantLong RX1 9 (9223372036854775807)) (by decide +kernel)) dX1_isInfinite_1 ?_
  refine lv_land hx hb dX1_isInfinite_4 ?_
  refine lv_ldc2 (v := (9218868437227405312 : Int64)) hx hb hown (hts (.constantLong RX1 11 (9218868437227405312)) (by decide +kernel)) dX1_isInfinite_5 ?_
  refine W.lcmp hx hb dX1_isInfinite_8 ?_
  refine lv_if_ne (tgt := 16) hx hb dX1_isInfinite_9 (by decide) (fun c_1 => ?_) (fun c_1 => ?_)
  · refine lv_iconst (v := (0 : Int32)) hx hb dX1_isInfinite_16 (by decide) ?_
    exact W.zret (v := (0 : Int32)) hx hb hr rfl (fun t ht _ => ⟨by rw [mX1_isInfinite, if_neg c_1], ht⟩) (fun _ h => by cases h) dX1_isInfinite_17
  · refine lv_iconst (v := (1 : Int32)) hx hb dX1_isInfinite_12 (by decide) ?_
    refine lv_goto (tgt := 17) hx hb dX1_isInfinite_13 (by decide) ?_
    exact W.zret (v := (1 : Int32)) hx hb hr rfl (fun t ht _ => ⟨by rw [mX1_isInfinite, if_pos c_1], ht⟩) (fun _ h => by cases h) dX1_isInfinite_17

def mX1_isAboveZero (a0 : Int64) : Int32 := (if (lg_cmp a0 (0 : Int64)) ≤ 0 then (0 : Int32) else (1 : Int32))
set_option maxHeartbeats 4000000 in
set_option maxRecDepth 100000 in
theorem ct_X1_isAboveZero (l : Launch) (a0 : Int64) : Met l yX1_isAboveZero wsX1_isAboveZero { frames := 0, cells := 0, slots := 0, locals := 0 } (fun v _ => v = ([.long a0] : List Value).toArray) (k2_QcV (.int (mX1_isAboveZero a0))) 0 0 (fun _ => False) := by
  refine Met.ofW (cc := cX1_isAboveZero) (maxL := 2) (ret := (some .boolean)) (by decide) rfl ?_
  intro p e s m args below meth c s₁ B hml hv
  subst hv
  have hx := B.exec
  have hb := B.bytes
  have hr := B.returns
  have hts := atoms_spec (ws := wsX1_isAboveZero) B.pre
  have hown : s.vm.findClass RX1 = some m.cls := findClass_of_methodNamed B.named
  have hlocks := B.notSynchronized
  have hl := lv_entry ([.long a0]) (n := 2) (Nat.le_of_ble_eq_true rfl)
  rw [lg_entry_eq]
  generalize (lg_sl ([.long a0]) ++ List.replicate (2 - (lg_sl ([.long a0])).length) Slot.unset).toArray = ls at hl ⊢
  have hl : lv_has ls 2 [(0, .long a0)] := hl
  refine lv_lload_n hx hb dX1_isAboveZero_0 rfl (lv_at hl 0 rfl) ?_
  refine lv_lconst (v := (0 : Int64)) hx hb dX1_isAboveZero_1 (by decide) ?_
  refine W.lcmp hx hb dX1_isAboveZero_2 ?_
  refine lv_if_le (tgt := 10) hx hb dX1_isAboveZero_3 (by decide) (fun c_1 => ?_) (fun c_1 => ?_)
  · refine lv_iconst (v := (0 : Int32)) hx hb dX1_isAboveZero_10 (by decide) ?_
    exact W.zret (v := (0 : Int32)) hx hb hr rfl (fun t ht _ => ⟨by rw [mX1_isAboveZero, if_pos c_1], ht⟩) (fun _ h => by cases h) dX1_isAboveZero_11
  · refine lv_iconst (v := (1 : Int32)) hx hb dX1_isAboveZero_6 (by decide) ?_
    refine lv_goto (tgt := 11) hx hb dX1_isAboveZero_7 (by decide) ?_
    exact W.zret (v := (1 : Int32)) hx hb hr rfl (fun t ht _ => ⟨by rw [mX1_isAboveZero, if_neg c_1], ht⟩) (fun _ h => by cases h) dX1_isAboveZero_11

def mX1_opposite (a0 : Int64) : Int64 := (a0 ^^^ (-9223372036854775808 : Int64))
set_option maxHeartbeats 4000000 in
set_option maxRecDepth 100000 in
theorem ct_X1_opposite (l : Launch) (a0 : Int64) : Met l yX1_opposite wsX1_opposite { frames := 0, cells := 0, slots := 0, locals := 0 } (fun v _ => v = ([.long a0] : List Value).toArray) (k2_QcV (.long (mX1_opposite a0))) 0 0 (fun _ => False) := by
  refine Met.ofW (cc := cX1_opposite) (maxL := 2) (ret := (some .long)) (by decide) rfl ?_
  intro p e s m args below meth c s₁ B hml hv
  subst hv
  have hx := B.exec
  have hb := B.bytes
  have hr := B.returns
  have hts := atoms_spec (ws := wsX1_opposite) B.pre
  have hown : s.vm.findClass RX1 = some m.cls := findClass_of_methodNamed B.named
  have hlocks := B.notSynchronized
  have hl := lv_entry ([.long a0]) (n := 2) (Nat.le_of_ble_eq_true rfl)
  rw [lg_entry_eq]
  generalize (lg_sl ([.long a0]) ++ List.replicate (2 - (lg_sl ([.long a0])).length) Slot.unset).toArray = ls at hl ⊢
  have hl : lv_has ls 2 [(0, .long a0)] := hl
  refine lv_lload_n hx hb dX1_opposite_0 rfl (lv_at hl 0 rfl) ?_
  refine lv_ldc2 (v := (-9223372036854775808 : Int64)) hx hb hown (hts (.constantLong RX1 13 (-9223372036854775808)) (by decide +kernel)) dX1_opposite_1 ?_
  refine lv_lxor hx hb dX1_opposite_4 ?_
  exact W.lret (v := (a0 ^^^ (-9223372036854775808 : Int64))) hx hb hr (fun t ht _ => ⟨by rw [mX1_opposite], ht⟩) (fun _ h => by cases h) dX1_opposite_5

def mX1_withSignOf (a0 : Int64) (a1 : Int64) : Int64 := ((a0 &&& (9223372036854775807 : Int64)) ||| (a1 &&& (-9223372036854775808 : Int64)))
set_option maxHeartbeats 4000000 in
set_option maxRecDepth 100000 in
theorem ct_X1_withSignOf (l : Launch) (a0 : Int64) (a1 : Int64) : Met l yX1_withSignOf wsX1_withSignOf { frames := 0, cells := 0, slots := 0, locals := 0 } (fun v _ => v = ([.long a0, .long a1] : List Value).toArray) (k2_QcV (.long (mX1_withSignOf a0 a1))) 0 0 (fun _ => False) := by
  refine Met.ofW (cc := cX1_withSignOf) (maxL := 4) (ret := (some .long)) (by decide) rfl ?_
  intro p e s m args below meth c s₁ B hml hv
  subst hv
  have hx := B.exec
  have hb := B.bytes
  have hr := B.returns
  have hts := atoms_spec (ws := wsX1_withSignOf) B.pre
  have hown : s.vm.findClass RX1 = some m.cls := findClass_of_methodNamed B.named
  have hlocks := B.notSynchronized
  have hl := lv_entry ([.long a0, .long a1]) (n := 4) (Nat.le_of_ble_eq_true rfl)
  rw [lg_entry_eq]
  generalize (lg_sl ([.long a0, .long a1]) ++ List.replicate (4 - (lg_sl ([.long a0, .long a1])).length) Slot.unset).toArray = ls at hl ⊢
  have hl : lv_has ls 4 [(0, .long a0), (2, .long a1)] := hl
  refine lv_lload_n hx hb dX1_withSignOf_0 rfl (lv_at hl 0 rfl) ?_
  refine lv_ldc2 (v := (9223372036854775807 : Int64)) hx hb hown (hts (.constantLong RX1 9 (9223372036854775807)) (by decide +kernel)) dX1_withSignOf_1 ?_
  refine lv_land hx hb dX1_withSignOf_4 ?_
  refine lv_lload_n hx hb dX1_withSignOf_5 rfl (lv_at hl 1 rfl) ?_
  refine lv_ldc2 (v := (-9223372036854775808 : Int64)) hx hb hown (hts (.constantLong RX1 13 (-9223372036854775808)) (by decide +kernel)) dX1_withSignOf_6 ?_
  refine lv_land hx hb dX1_withSignOf_9 ?_
  refine lv_lor hx hb dX1_withSignOf_10 ?_
  exact W.lret (v := ((a0 &&& (9223372036854775807 : Int64)) ||| (a1 &&& (-9223372036854775808 : Int64)))) hx hb hr (fun t ht _ => ⟨by rw [mX1_withSignOf], ht⟩) (fun _ h => by cases h) dX1_withSignOf_11

def mX1_unit (a0 : Int64) : Int64 := (if (lg_cmp (a0 &&& (9223372036854775807 : Int64)) (0 : Int64)) = 0 then a0 else (mX1_withSignOf (4607182418800017408 : Int64) a0))
set_option maxHeartbeats 4000000 in
set_option maxRecDepth 100000 in
theorem ct_X1_unit (l : Launch) (a0 : Int64) : Met l yX1_unit wsX1_unit { frames := 1, cells := 0, slots := 0, locals := 23 } (fun v _ => v = ([.long a0] : List Value).toArray) (k2_QcV (.long (mX1_unit a0))) 0 0 (fun _ => False) := by
  refine Met.ofW (cc := cX1_unit) (maxL := 2) (ret := (some .long)) (by decide) rfl ?_
  intro p e s m args below meth c s₁ B hml hv
  subst hv
  have hx := B.exec
  have hb := B.bytes
  have hr := B.returns
  have hts := atoms_spec (ws := wsX1_unit) B.pre
  have hown : s.vm.findClass RX1 = some m.cls := findClass_of_methodNamed B.named
  have hlocks := B.notSynchronized
  have hl := lv_entry ([.long a0]) (n := 2) (Nat.le_of_ble_eq_true rfl)
  rw [lg_entry_eq]
  generalize (lg_sl ([.long a0]) ++ List.replicate (2 - (lg_sl ([.long a0])).length) Slot.unset).toArray = ls at hl ⊢
  have hl : lv_has ls 2 [(0, .long a0)] := hl
  refine lv_lload_n hx hb dX1_unit_0 rfl (lv_at hl 0 rfl) ?_
  refine lv_ldc2 (v := (9223372036854775807 : Int64)) hx hb hown (hts (.constantLong RX1 9 (9223372036854775807)) (by decide +kernel)) dX1_unit_1 ?_
  refine lv_land hx hb dX1_unit_4 ?_
  refine lv_lconst (v := (0 : Int64)) hx hb dX1_unit_5 (by decide) ?_
  refine W.lcmp hx hb dX1_unit_6 ?_
  refine lv_if_ne (tgt := 14) hx hb dX1_unit_7 (by decide) (fun c_1 => ?_) (fun c_1 => ?_)
  · refine lv_ldc2 (v := (4607182418800017408 : Int64)) hx hb hown (hts (.constantLong RX1 15 (4607182418800017408)) (by decide +kernel)) dX1_unit_14 ?_
    refine lv_lload_n hx hb dX1_unit_17 rfl (lv_at hl 0 rfl) ?_
    refine hc_S (As := [.long (4607182418800017408 : Int64), .long a0]) (rest := []) ⟨hx, hb, hml, hown, hts⟩ (ct_X1_withSignOf l (4607182418800017408 : Int64) a0) (va_cwS 2 hts gX1_unit_X1_withSignOf rfl rfl rfl (by decide +kernel) ⟨Nat.le_of_ble_eq_true rfl, Nat.le_of_ble_eq_true rfl⟩) rfl hl.1 rfl (Nat.le_of_ble_eq_true rfl) dX1_unit_18 ⟨Nat.le_of_ble_eq_true rfl, Nat.le_of_ble_eq_true rfl⟩ ?_
    exact W.lret (v := (mX1_withSignOf (4607182418800017408 : Int64) a0)) hx hb hr (fun t ht _ => ⟨by rw [mX1_unit, if_neg c_1], ht⟩) (fun _ h => by cases h) dX1_unit_21
  · refine lv_lload_n hx hb dX1_unit_10 rfl (lv_at hl 0 rfl) ?_
    refine lv_goto (tgt := 21) hx hb dX1_unit_11 (by decide) ?_
    exact W.lret (v := a0) hx hb hr (fun t ht _ => ⟨by rw [mX1_unit, if_pos c_1], ht⟩) (fun _ h => by cases h) dX1_unit_21

def mX1_rank (a0 : Int64) : Int64 := (if 0 ≤ (lg_cmp a0 (0 : Int64)) then a0 else (a0 ^^^ (9223372036854775807 : Int64)))
set_option maxHeartbeats 4000000 in
set_option maxRecDepth 100000 in
theorem ct_X1_rank (l : Launch) (a0 : Int64) : Met l yX1_rank wsX1_rank { frames := 0, cells := 0, slots := 0, locals := 0 } (fun v _ => v = ([.long a0] : List Value).toArray) (k2_QcV (.long (mX1_rank a0))) 0 0 (fun _ => False) := by
  refine Met.ofW (cc := cX1_rank) (maxL := 2) (ret := (some .long)) (by decide) rfl ?_
  intro p e s m args below meth c s₁ B hml hv
  subst hv
  have hx := B.exec
  have hb := B.bytes
  have hr := B.returns
  have hts := atoms_spec (ws := wsX1_rank) B.pre
  have hown : s.vm.findClass RX1 = some m.cls := findClass_of_methodNamed B.named
  have hlocks := B.notSynchronized
  have hl := lv_entry ([.long a0]) (n := 2) (Nat.le_of_ble_eq_true rfl)
  rw [lg_entry_eq]
  generalize (lg_sl ([.long a0]) ++ List.replicate (2 - (lg_sl ([.long a0])).length) Slot.unset).toArray = ls at hl ⊢
  have hl : lv_has ls 2 [(0, .long a0)] := hl
  refine lv_lload_n hx hb dX1_rank_0 rfl (lv_at hl 0 rfl) ?_
  refine lv_lconst (v := (0 : Int64)) hx hb dX1_rank_1 (by decide) ?_
  refine W.lcmp hx hb dX1_rank_2 ?_
  refine lv_if_ge (tgt := 14) hx hb dX1_rank_3 (by decide) (fun c_1 => ?_) (fun c_1 => ?_)
  · refine lv_lload_n hx hb dX1_rank_14 rfl (lv_at hl 0 rfl) ?_
    exact W.lret (v := a0) hx hb hr (fun t ht _ => ⟨by rw [mX1_rank, if_pos c_1], ht⟩) (fun _ h => by cases h) dX1_rank_15
  · refine lv_lload_n hx hb dX1_rank_6 rfl (lv_at hl 0 rfl) ?_
    refine lv_ldc2 (v := (9223372036854775807 : Int64)) hx hb hown (hts (.constantLong RX1 9 (9223372036854775807)) (by decide +kernel)) dX1_rank_7 ?_
    refine lv_lxor hx hb dX1_rank_10 ?_
    refine lv_goto (tgt := 15) hx hb dX1_rank_11 (by decide) ?_
    exact W.lret (v := (a0 ^^^ (9223372036854775807 : Int64))) hx hb hr (fun t ht _ => ⟨by rw [mX1_rank, if_neg c_1], ht⟩) (fun _ h => by cases h) dX1_rank_15

def mX1_lesser (a0 : Int64) (a1 : Int64) : Int64 := (if 0 < (lg_cmp (mX1_rank a0) (mX1_rank a1)) then a1 else a0)
set_option maxHeartbeats 4000000 in
set_option maxRecDepth 100000 in
theorem ct_X1_lesser (l : Launch) (a0 : Int64) (a1 : Int64) : Met l yX1_lesser wsX1_lesser { frames := 1, cells := 0, slots := 0, locals := 21 } (fun v _ => v = ([.long a0, .long a1] : List Value).toArray) (k2_QcV (.long (mX1_lesser a0 a1))) 0 0 (fun _ => False) := by
  refine Met.ofW (cc := cX1_lesser) (maxL := 4) (ret := (some .long)) (by decide) rfl ?_
  intro p e s m args below meth c s₁ B hml hv
  subst hv
  have hx := B.exec
  have hb := B.bytes
  have hr := B.returns
  have hts := atoms_spec (ws := wsX1_lesser) B.pre
  have hown : s.vm.findClass RX1 = some m.cls := findClass_of_methodNamed B.named
  have hlocks := B.notSynchronized
  have hl := lv_entry ([.long a0, .long a1]) (n := 4) (Nat.le_of_ble_eq_true rfl)
  rw [lg_entry_eq]
  generalize (lg_sl ([.long a0, .long a1]) ++ List.replicate (4 - (lg_sl ([.long a0, .long a1])).length) Slot.unset).toArray = ls at hl ⊢
  have hl : lv_has ls 4 [(0, .long a0), (2, .long a1)] := hl
  refine lv_lload_n hx hb dX1_lesser_0 rfl (lv_at hl 0 rfl) ?_
  refine hc_S (As := [.long a0]) (rest := []) ⟨hx, hb, hml, hown, hts⟩ (ct_X1_rank l a0) (va_cwS 1 hts gX1_lesser_X1_rank rfl rfl rfl (by decide +kernel) ⟨Nat.le_of_ble_eq_true rfl, Nat.le_of_ble_eq_true rfl⟩) rfl hl.1 rfl (Nat.le_of_ble_eq_true rfl) dX1_lesser_1 ⟨Nat.le_of_ble_eq_true rfl, Nat.le_of_ble_eq_true rfl⟩ ?_
  refine lv_lload_n hx hb dX1_lesser_4 rfl (lv_at hl 1 rfl) ?_
  refine hc_S (As := [.long a1]) (rest := [.long (mX1_rank a0)]) ⟨hx, hb, hml, hown, hts⟩ (ct_X1_rank l a1) (va_cwS 1 hts gX1_lesser_X1_rank rfl rfl rfl (by decide +kernel) ⟨Nat.le_of_ble_eq_true rfl, Nat.le_of_ble_eq_true rfl⟩) rfl hl.1 rfl (Nat.le_of_ble_eq_true rfl) dX1_lesser_5 ⟨Nat.le_of_ble_eq_true rfl, Nat.le_of_ble_eq_true rfl⟩ ?_
  refine W.lcmp hx hb dX1_lesser_8 ?_
  refine lv_if_gt (tgt := 16) hx hb dX1_lesser_9 (by decide) (fun c_1 => ?_) (fun c_1 => ?_)
  · refine lv_lload_n hx hb dX1_lesser_16 rfl (lv_at hl 1 rfl) ?_
    exact W.lret (v := a1) hx hb hr (fun t ht _ => ⟨by rw [mX1_lesser, if_pos c_1], ht⟩) (fun _ h => by cases h) dX1_lesser_17
  · refine lv_lload_n hx hb dX1_lesser_12 rfl (lv_at hl 0 rfl) ?_
    refine lv_goto (tgt := 17) hx hb dX1_lesser_13 (by decide) ?_
    exact W.lret (v := a0) hx hb hr (fun t ht _ => ⟨by rw [mX1_lesser, if_neg c_1], ht⟩) (fun _ h => by cases h) dX1_lesser_17

def mX1_greater (a0 : Int64) (a1 : Int64) : Int64 := (if (lg_cmp (mX1_rank a0) (mX1_rank a1)) < 0 then a1 else a0)
set_option maxHeartbeats 4000000 in
set_option maxRecDepth 100000 in
theorem ct_X1_greater (l : Launch) (a0 : Int64) (a1 : Int64) : Met l yX1_greater wsX1_greater { frames := 1, cells := 0, slots := 0, locals := 21 } (fun v _ => v = ([.long a0, .long a1] : List Value).toArray) (k2_QcV (.long (mX1_greater a0 a1))) 0 0 (fun _ => False) := by
  refine Met.ofW (cc := cX1_greater) (maxL := 4) (ret := (some .long)) (by decide) rfl ?_
  intro p e s m args below meth c s₁ B hml hv
  subst hv
  have hx := B.exec
  have hb := B.bytes
  have hr := B.returns
  have hts := atoms_spec (ws := wsX1_greater) B.pre
  have hown : s.vm.findClass RX1 = some m.cls := findClass_of_methodNamed B.named
  have hlocks := B.notSynchronized
  have hl := lv_entry ([.long a0, .long a1]) (n := 4) (Nat.le_of_ble_eq_true rfl)
  rw [lg_entry_eq]
  generalize (lg_sl ([.long a0, .long a1]) ++ List.replicate (4 - (lg_sl ([.long a0, .long a1])).length) Slot.unset).toArray = ls at hl ⊢
  have hl : lv_has ls 4 [(0, .long a0), (2, .long a1)] := hl
  refine lv_lload_n hx hb dX1_greater_0 rfl (lv_at hl 0 rfl) ?_
  refine hc_S (As := [.long a0]) (rest := []) ⟨hx, hb, hml, hown, hts⟩ (ct_X1_rank l a0) (va_cwS 1 hts gX1_greater_X1_rank rfl rfl rfl (by decide +kernel) ⟨Nat.le_of_ble_eq_true rfl, Nat.le_of_ble_eq_true rfl⟩) rfl hl.1 rfl (Nat.le_of_ble_eq_true rfl) dX1_greater_1 ⟨Nat.le_of_ble_eq_true rfl, Nat.le_of_ble_eq_true rfl⟩ ?_
  refine lv_lload_n hx hb dX1_greater_4 rfl (lv_at hl 1 rfl) ?_
  refine hc_S (As := [.long a1]) (rest := [.long (mX1_rank a0)]) ⟨hx, hb, hml, hown, hts⟩ (ct_X1_rank l a1) (va_cwS 1 hts gX1_greater_X1_rank rfl rfl rfl (by decide +kernel) ⟨Nat.le_of_ble_eq_true rfl, Nat.le_of_ble_eq_true rfl⟩) rfl hl.1 rfl (Nat.le_of_ble_eq_true rfl) dX1_greater_5 ⟨Nat.le_of_ble_eq_true rfl, Nat.le_of_ble_eq_true rfl⟩ ?_
  refine W.lcmp hx hb dX1_greater_8 ?_
  refine lv_if_lt (tgt := 16) hx hb dX1_greater_9 (by decide) (fun c_1 => ?_) (fun c_1 => ?_)
  · refine lv_lload_n hx hb dX1_greater_16 rfl (lv_at hl 1 rfl) ?_
    exact W.lret (v := a1) hx hb hr (fun t ht _ => ⟨by rw [mX1_greater, if_pos c_1], ht⟩) (fun _ h => by cases h) dX1_greater_17
  · refine lv_lload_n hx hb dX1_greater_12 rfl (lv_at hl 0 rfl) ?_
    refine lv_goto (tgt := 17) hx hb dX1_greater_13 (by decide) ?_
    exact W.lret (v := a0) hx hb hr (fun t ht _ => ⟨by rw [mX1_greater, if_neg c_1], ht⟩) (fun _ h => by cases h) dX1_greater_17

def mX1_outer (a0 : Int64) (a1 : Int64) (a2 : Int32) : Int64 := (if a2 = 0 then (mX1_greater a0 a1) else (mX1_lesser a0 a1))
set_option maxHeartbeats 4000000 in
set_option maxRecDepth 100000 in
theorem ct_X1_outer (l : Launch) (a0 : Int64) (a1 : Int64) (a2 : Int32) : Met l yX1_outer wsX1_outer { frames := 2, cells := 0, slots := 0, locals := 44 } (fun v _ => v = ([.long a0, .long a1, .int a2] : List Value).toArray) (k2_QcV (.long (mX1_outer a0 a1 a2))) 0 0 (fun _ => False) := by
  refine Met.ofW (cc := cX1_outer) (maxL := 5) (ret := (some .long)) (by decide) rfl ?_
  intro p e s m args below meth c s₁ B hml hv
  subst hv
  have hx := B.exec
  have hb := B.bytes
  have hr := B.returns
  have hts := atoms_spec (ws := wsX1_outer) B.pre
  have hown : s.vm.findClass RX1 = some m.cls := findClass_of_methodNamed B.named
  have hlocks := B.notSynchronized
  have hl := lv_entry ([.long a0, .long a1, .int a2]) (n := 5) (Nat.le_of_ble_eq_true rfl)
  rw [lg_entry_eq]
  generalize (lg_sl ([.long a0, .long a1, .int a2]) ++ List.replicate (5 - (lg_sl ([.long a0, .long a1, .int a2])).length) Slot.unset).toArray = ls at hl ⊢
  have hl : lv_has ls 5 [(0, .long a0), (2, .long a1), (4, .int a2)] := hl
  refine lv_iload hx hb dX1_outer_0 (lv_at hl 2 rfl) ?_
  refine lv_if_ne (tgt := 13) hx hb dX1_outer_2 (by decide) (fun c_1 => ?_) (fun c_1 => ?_)
  · refine lv_lload_n hx hb dX1_outer_13 rfl (lv_at hl 0 rfl) ?_
    refine lv_lload_n hx hb dX1_outer_14 rfl (lv_at hl 1 rfl) ?_
    refine hc_S (As := [.long a0, .long a1]) (rest := []) ⟨hx, hb, hml, hown, hts⟩ (ct_X1_lesser l a0 a1) (va_cwS 2 hts gX1_outer_X1_lesser rfl rfl rfl (by decide +kernel) ⟨Nat.le_of_ble_eq_true rfl, Nat.le_of_ble_eq_true rfl⟩) rfl hl.1 rfl (Nat.le_of_ble_eq_true rfl) dX1_outer_15 ⟨Nat.le_of_ble_eq_true rfl, Nat.le_of_ble_eq_true rfl⟩ ?_
    exact W.lret (v := (mX1_lesser a0 a1)) hx hb hr (fun t ht _ => ⟨by rw [mX1_outer, if_neg c_1], ht⟩) (fun _ h => by cases h) dX1_outer_18
  · refine lv_lload_n hx hb dX1_outer_5 rfl (lv_at hl 0 rfl) ?_
    refine lv_lload_n hx hb dX1_outer_6 rfl (lv_at hl 1 rfl) ?_
    refine hc_S (As := [.long a0, .long a1]) (rest := []) ⟨hx, hb, hml, hown, hts⟩ (ct_X1_greater l a0 a1) (va_cwS 2 hts gX1_outer_X1_greater rfl rfl rfl (by decide +kernel) ⟨Nat.le_of_ble_eq_true rfl, Nat.le_of_ble_eq_true rfl⟩) rfl hl.1 rfl (Nat.le_of_ble_eq_true rfl) dX1_outer_7 ⟨Nat.le_of_ble_eq_true rfl, Nat.le_of_ble_eq_true rfl⟩ ?_
    refine lv_goto (tgt := 18) hx hb dX1_outer_10 (by decide) ?_
    exact W.lret (v := (mX1_greater a0 a1)) hx hb hr (fun t ht _ => ⟨by rw [mX1_outer, if_pos c_1], ht⟩) (fun _ h => by cases h) dX1_outer_18

def mX2_leap (a0 : Int32) : UInt64 := (if a0 = (0 : Int32) then (4611686018427387904 : UInt64) else (if a0 = (1 : Int32) then (4616189618054758400 : UInt64) else (if a0 = (2 : Int32) then (4625196817309499392 : UInt64) else (if a0 = (3 : Int32) then (4643211215818981376 : UInt64) else (if a0 = (4 : Int32) then (4679240012837945344 : UInt64) else (if a0 = (5 : Int32) then (4751297606875873280 : UInt64) else (if a0 = (6 : Int32) then (4895412794951729152 : UInt64) else (if a0 = (7 : Int32) then (5183643171103440896 : UInt64) else (if a0 = (8 : Int32) then (5760103923406864384 : UInt64) else (6913025428013711360 : UInt64))))))))))
set_option maxHeartbeats 4000000 in
set_option maxRecDepth 100000 in
theorem ct_X2_leap (l : Launch) (a0 : Int32) : Met l yX2_leap wsX2_leap { frames := 0, cells := 0, slots := 0, locals := 0 } (fun v _ => v = ([.int a0] : List Value).toArray) (k2_QcV (.double (mX2_leap a0))) 0 0 (fun _ => False) := by
  refine Met.ofW (cc := cX2_leap) (maxL := 1) (ret := (some .double)) (by decide) rfl ?_
  intro p e s m args below meth c s₁ B hml hv
  subst hv
  have hx := B.exec
  have hb := B.bytes
  have hr := B.returns
  have hts := atoms_spec (ws := wsX2_leap) B.pre
  have hown : s.vm.findClass RX2 = some m.cls := findClass_of_methodNamed B.named
  have hlocks := B.notSynchronized
  have hl := lv_entry ([.int a0]) (n := 1) (Nat.le_of_ble_eq_true rfl)
  rw [lg_entry_eq]
  generalize (lg_sl ([.int a0]) ++ List.replicate (1 - (lg_sl ([.int a0])).length) Slot.unset).toArray = ls at hl ⊢
  have hl : lv_has ls 1 [(0, .int a0)] := hl
  refine lv_iload_n hx hb dX2_leap_0 rfl (lv_at hl 0 rfl) ?_
  by_cases c_1 : a0 = (0 : Int32)
  · refine lv_tableIn (off := 51) (tgt := 52) hx hb dX2_leap_1 (by rw [c_1]; decide) (by rw [c_1]; decide) (by rw [c_1]; rfl) (by decide) ?_
    refine lv_ldc2d (v := (4611686018427387904 : UInt64)) hx hb hown (hts (.constantDouble RX2 7 (4611686018427387904)) (by decide +kernel)) dX2_leap_52 ?_
    exact W.dret (v := (4611686018427387904 : UInt64)) hx hb hr (fun t ht _ => ⟨by rw [mX2_leap, if_pos c_1], ht⟩) (fun _ h => by cases h) dX2_leap_55
  by_cases c_2 : a0 = (1 : Int32)
  · refine lv_tableIn (off := 55) (tgt := 56) hx hb dX2_leap_1 (by rw [c_2]; decide) (by rw [c_2]; decide) (by rw [c_2]; rfl) (by decide) ?_
    refine lv_ldc2d (v := (4616189618054758400 : UInt64)) hx hb hown (hts (.constantDouble RX2 9 (4616189618054758400)) (by decide +kernel)) dX2_leap_56 ?_
    exact W.dret (v := (4616189618054758400 : UInt64)) hx hb hr (fun t ht _ => ⟨by rw [mX2_leap, if_neg c_1, if_pos c_2], ht⟩) (fun _ h => by cases h) dX2_leap_59
  by_cases c_3 : a0 = (2 : Int32)
  · refine lv_tableIn (off := 59) (tgt := 60) hx hb dX2_leap_1 (by rw [c_3]; decide) (by rw [c_3]; decide) (by rw [c_3]; rfl) (by decide) ?_
    refine lv_ldc2d (v := (4625196817309499392 : UInt64)) hx hb hown (hts (.constantDouble RX2 11 (4625196817309499392)) (by decide +kernel)) dX2_leap_60 ?_
    exact W.dret (v := (4625196817309499392 : UInt64)) hx hb hr (fun t ht _ => ⟨by rw [mX2_leap, if_neg c_1, if_neg c_2, if_pos c_3], ht⟩) (fun _ h => by cases h) dX2_leap_63
  by_cases c_4 : a0 = (3 : Int32)
  · refine lv_tableIn (off := 63) (tgt := 64) hx hb dX2_leap_1 (by rw [c_4]; decide) (by rw [c_4]; decide) (by rw [c_4]; rfl) (by decide) ?_
    refine lv_ldc2d (v := (4643211215818981376 : UInt64)) hx hb hown (hts (.constantDouble RX2 13 (4643211215818981376)) (by decide +kernel)) dX2_leap_64 ?_
    exact W.dret (v := (4643211215818981376 : UInt64)) hx hb hr (fun t ht _ => ⟨by rw [mX2_leap, if_neg c_1, if_neg c_2, if_neg c_3, if_pos c_4], ht⟩) (fun _ h => by cases h) dX2_leap_67
  by_cases c_5 : a0 = (4 : Int32)
  · refine lv_tableIn (off := 67) (tgt := 68) hx hb dX2_leap_1 (by rw [c_5]; decide) (by rw [c_5]; decide) (by rw [c_5]; rfl) (by decide) ?_
    refine lv_ldc2d (v := (4679240012837945344 : UInt64)) hx hb hown (hts (.constantDouble RX2 15 (4679240012837945344)) (by decide +kernel)) dX2_leap_68 ?_
    exact W.dret (v := (4679240012837945344 : UInt64)) hx hb hr (fun t ht _ => ⟨by rw [mX2_leap, if_neg c_1, if_neg c_2, if_neg c_3, if_neg c_4, if_pos c_5], ht⟩) (fun _ h => by cases h) dX2_leap_71
  by_cases c_6 : a0 = (5 : Int32)
  · refine lv_tableIn (off := 71) (tgt := 72) hx hb dX2_leap_1 (by rw [c_6]; decide) (by rw [c_6]; decide) (by rw [c_6]; rfl) (by decide) ?_
    refine lv_ldc2d (v := (4751297606875873280 : UInt64)) hx hb hown (hts (.constantDouble RX2 17 (4751297606875873280)) (by decide +kernel)) dX2_leap_72 ?_
    exact W.dret (v := (4751297606875873280 : UInt64)) hx hb hr (fun t ht _ => ⟨by rw [mX2_leap, if_neg c_1, if_neg c_2, if_neg c_3, if_neg c_4, if_neg c_5, if_pos c_6], ht⟩) (fun _ h => by cases h) dX2_leap_75
  by_cases c_7 : a0 = (6 : Int32)
  · refine lv_tableIn (off := 75) (tgt := 76) hx hb dX2_leap_1 (by rw [c_7]; decide) (by rw [c_7]; decide) (by rw [c_7]; rfl) (by decide) ?_
    refine lv_ldc2d (v := (4895412794951729152 : UInt64)) hx hb hown (hts (.constantDouble RX2 19 (4895412794951729152)) (by decide +kernel)) dX2_leap_76 ?_
    exact W.dret (v := (4895412794951729152 : UInt64)) hx hb hr (fun t ht _ => ⟨by rw [mX2_leap, if_neg c_1, if_neg c_2, if_neg c_3, if_neg c_4, if_neg c_5, if_neg c_6, if_pos c_7], ht⟩) (fun _ h => by cases h) dX2_leap_79
  by_cases c_8 : a0 = (7 : Int32)
  · refine lv_tableIn (off := 79) (tgt := 80) hx hb dX2_leap_1 (by rw [c_8]; decide) (by rw [c_8]; decide) (by rw [c_8]; rfl) (by decide) ?_
    refine lv_ldc2d (v := (5183643171103440896 : UInt64)) hx hb hown (hts (.constantDouble RX2 21 (5183643171103440896)) (by decide +kernel)) dX2_leap_80 ?_
    exact W.dret (v := (5183643171103440896 : UInt64)) hx hb hr (fun t ht _ => ⟨by rw [mX2_leap, if_neg c_1, if_neg c_2, if_neg c_3, if_neg c_4, if_neg c_5, if_neg c_6, if_neg c_7, if_pos c_8], ht⟩) (fun _ h => by cases h) dX2_leap_83
  by_cases c_9 : a0 = (8 : Int32)
  · refine lv_tableIn (off := 83) (tgt := 84) hx hb dX2_leap_1 (by rw [c_9]; decide) (by rw [c_9]; decide) (by rw [c_9]; rfl) (by decide) ?_
    refine lv_ldc2d (v := (5760103923406864384 : UInt64)) hx hb hown (hts (.constantDouble RX2 23 (5760103923406864384)) (by decide +kernel)) dX2_leap_84 ?_
    exact W.dret (v := (5760103923406864384 : UInt64)) hx hb hr (fun t ht _ => ⟨by rw [mX2_leap, if_neg c_1, if_neg c_2, if_neg c_3, if_neg c_4, if_neg c_5, if_neg c_6, if_neg c_7, if_neg c_8, if_pos c_9], ht⟩) (fun _ h => by cases h) dX2_leap_87
  refine lv_tableOut (tgt := 88) hx hb dX2_leap_1 (by have h_1 := lv_neT c_1 (a := 0) (by decide); have h_2 := lv_neT c_2 (a := 1) (by decide); have h_3 := lv_neT c_3 (a := 2) (by decide); have h_4 := lv_neT c_4 (a := 3) (by decide); have h_5 := lv_neT c_5 (a := 4) (by decide); have h_6 := lv_neT c_6 (a := 5) (by decide); have h_7 := lv_neT c_7 (a := 6) (by decide); have h_8 := lv_neT c_8 (a := 7) (by decide); have h_9 := lv_neT c_9 (a := 8) (by decide); omega) (by decide) ?_
  refine lv_ldc2d (v := (6913025428013711360 : UInt64)) hx hb hown (hts (.constantDouble RX2 25 (6913025428013711360)) (by decide +kernel)) dX2_leap_88 ?_
  exact W.dret (v := (6913025428013711360 : UInt64)) hx hb hr (fun t ht _ => ⟨by rw [mX2_leap, if_neg c_1, if_neg c_2, if_neg c_3, if_neg c_4, if_neg c_5, if_neg c_6, if_neg c_7, if_neg c_8, if_neg c_9], ht⟩) (fun _ h => by cases h) dX2_leap_91

def mX6_isPoint (a0 : Int32) : Int32 := (if a0 < 0 then (0 : Int32) else (if (8 : Int32) ≤ a0 then (0 : Int32) else (1 : Int32)))
set_option maxHeartbeats 4000000 in
set_option maxRecDepth 100000 in
theorem ct_X6_isPoint (l : Launch) (a0 : Int32) : Met l yX6_isPoint wsX6_isPoint { frames := 0, cells := 0, slots := 0, locals := 0 } (fun v _ => v = ([.int a0] : List Value).toArray) (k2_QcV (.int (mX6_isPoint a0))) 0 0 (fun _ => False) := by
  refine Met.ofW (cc := cX6_isPoint) (maxL := 1) (ret := (some .boolean)) (by decide) rfl ?_
  intro p e s m args below meth c s₁ B hml hv
  subst hv
  have hx := B.exec
  have hb := B.bytes
  have hr := B.returns
  have hts := atoms_spec (ws := wsX6_isPoint) B.pre
  have hown : s.vm.findClass RX6 = some m.cls := findClass_of_methodNamed B.named
  have hlocks := B.notSynchronized
  have hl := lv_entry ([.int a0]) (n := 1) (Nat.le_of_ble_eq_true rfl)
  rw [lg_entry_eq]
  generalize (lg_sl ([.int a0]) ++ List.replicate (1 - (lg_sl ([.int a0])).length) Slot.unset).toArray = ls at hl ⊢
  have hl : lv_has ls 1 [(0, .int a0)] := hl
  refine lv_iload_n hx hb dX6_isPoint_0 rfl (lv_at hl 0 rfl) ?_
  refine lv_if_lt (tgt := 14) hx hb dX6_isPoint_1 (by decide) (fun c_1 => ?_) (fun c_1 => ?_)
  · refine lv_iconst (v := (0 : Int32)) hx hb dX6_isPoint_14 (by decide) ?_
    exact W.zret (v := (0 : Int32)) hx hb hr rfl (fun t ht _ => ⟨by rw [mX6_isPoint, if_pos c_1], ht⟩) (fun _ h => by cases h) dX6_isPoint_15
  · refine lv_iload_n hx hb dX6_isPoint_4 rfl (lv_at hl 0 rfl) ?_
    refine lv_bipush (v := (8 : Int32)) hx hb dX6_isPoint_5 (by decide) ?_
    refine lv_icmp_ge (tgt := 14) hx hb dX6_isPoint_7 (by decide) (fun c_2 => ?_) (fun c_2 => ?_)
    · refine lv_iconst (v := (0 : Int32)) hx hb dX6_isPoint_14 (by decide) ?_
      exact W.zret (v := (0 : Int32)) hx hb hr rfl (fun t ht _ => ⟨by rw [mX6_isPoint, if_neg c_1, if_pos c_2], ht⟩) (fun _ h => by cases h) dX6_isPoint_15
    · refine lv_iconst (v := (1 : Int32)) hx hb dX6_isPoint_10 (by decide) ?_
      refine lv_goto (tgt := 15) hx hb dX6_isPoint_11 (by decide) ?_
      exact W.zret (v := (1 : Int32)) hx hb hr rfl (fun t ht _ => ⟨by rw [mX6_isPoint, if_neg c_1, if_neg c_2], ht⟩) (fun _ h => by cases h) dX6_isPoint_15

def mX6_isEnd (a0 : Int32) : Int32 := (if a0 = 0 then (1 : Int32) else (if a0 = (1 : Int32) then (1 : Int32) else (0 : Int32)))
set_option maxHeartbeats 4000000 in
set_option maxRecDepth 100000 in
theorem ct_X6_isEnd (l : Launch) (a0 : Int32) : Met l yX6_isEnd wsX6_isEnd { frames := 0, cells := 0, slots := 0, locals := 0 } (fun v _ => v = ([.int a0] : List Value).toArray) (k2_QcV (.int (mX6_isEnd a0))) 0 0 (fun _ => False) := by
  refine Met.ofW (cc := cX6_isEnd) (maxL := 1) (ret := (some .boolean)) (by decide) rfl ?_
  intro p e s m args below meth c s₁ B hml hv
  subst hv
  have hx := B.exec
  have hb := B.bytes
  have hr := B.returns
  have hts := atoms_spec (ws := wsX6_isEnd) B.pre
  have hown : s.vm.findClass RX6 = some m.cls := findClass_of_methodNamed B.named
  have hlocks := B.notSynchronized
  have hl := lv_entry ([.int a0]) (n := 1) (Nat.le_of_ble_eq_true rfl)
  rw [lg_entry_eq]
  generalize (lg_sl ([.int a0]) ++ List.replicate (1 - (lg_sl ([.int a0])).length) Slot.unset).toArray = ls at hl ⊢
  have hl : lv_has ls 1 [(0, .int a0)] := hl
  refine lv_iload_n hx hb dX6_isEnd_0 rfl (lv_at hl 0 rfl) ?_
  refine lv_if_eq (tgt := 9) hx hb dX6_isEnd_1 (by decide) (fun c_1 => ?_) (fun c_1 => ?_)
  · refine lv_iconst (v := (1 : Int32)) hx hb dX6_isEnd_9 (by decide) ?_
    refine lv_goto (tgt := 14) hx hb dX6_isEnd_10 (by decide) ?_
    exact W.zret (v := (1 : Int32)) hx hb hr rfl (fun t ht _ => ⟨by rw [mX6_isEnd, if_pos c_1], ht⟩) (fun _ h => by cases h) dX6_isEnd_14
  · refine lv_iload_n hx hb dX6_isEnd_4 rfl (lv_at hl 0 rfl) ?_
    refine lv_iconst (v := (1 : Int32)) hx hb dX6_isEnd_5 (by decide) ?_
    refine lv_icmp_ne (tgt := 13) hx hb dX6_isEnd_6 (by decide) (fun c_2 => ?_) (fun c_2 => ?_)
    · refine lv_iconst (v := (0 : Int32)) hx hb dX6_isEnd_13 (by decide) ?_
      exact W.zret (v := (0 : Int32)) hx hb hr rfl (fun t ht _ => ⟨by rw [mX6_isEnd, if_neg c_1, if_neg c_2], ht⟩) (fun _ h => by cases h) dX6_isEnd_14
    · refine lv_iconst (v := (1 : Int32)) hx hb dX6_isEnd_9 (by decide) ?_
      refine lv_goto (tgt := 14) hx hb dX6_isEnd_10 (by decide) ?_
      exact W.zret (v := (1 : Int32)) hx hb hr rfl (fun t ht _ => ⟨by rw [mX6_isEnd, if_neg c_1, if_pos c_2], ht⟩) (fun _ h => by cases h) dX6_isEnd_14

def mX5_isWay (a0 : Int32) : Int32 := (if a0 < 0 then (0 : Int32) else (if (3 : Int32) < a0 then (0 : Int32) else (1 : Int32)))
set_option maxHeartbeats 4000000 in
set_option maxRecDepth 100000 in
theorem ct_X5_isWay (l : Launch) (a0 : Int32) : Met l yX5_isWay wsX5_isWay { frames := 0, cells := 0, slots := 0, locals := 0 } (fun v _ => v = ([.int a0] : List Value).toArray) (k2_QcV (.int (mX5_isWay a0))) 0 0 (fun _ => False) := by
  refine Met.ofW (cc := cX5_isWay) (maxL := 1) (ret := (some .boolean)) (by decide) rfl ?_
  intro p e s m args below meth c s₁ B hml hv
  subst hv
  have hx := B.exec
  have hb := B.bytes
  have hr := B.returns
  have hts := atoms_spec (ws := wsX5_isWay) B.pre
  have hown : s.vm.findClass RX5 = some m.cls := findClass_of_methodNamed B.named
  have hlocks := B.notSynchronized
  have hl := lv_entry ([.int a0]) (n := 1) (Nat.le_of_ble_eq_true rfl)
  rw [lg_entry_eq]
  generalize (lg_sl ([.int a0]) ++ List.replicate (1 - (lg_sl ([.int a0])).length) Slot.unset).toArray = ls at hl ⊢
  have hl : lv_has ls 1 [(0, .int a0)] := hl
  refine lv_iload_n hx hb dX5_isWay_0 rfl (lv_at hl 0 rfl) ?_
  refine lv_if_lt (tgt := 13) hx hb dX5_isWay_1 (by decide) (fun c_1 => ?_) (fun c_1 => ?_)
  · refine lv_iconst (v := (0 : Int32)) hx hb dX5_isWay_13 (by decide) ?_
    exact W.zret (v := (0 : Int32)) hx hb hr rfl (fun t ht _ => ⟨by rw [mX5_isWay, if_pos c_1], ht⟩) (fun _ h => by cases h) dX5_isWay_14
  · refine lv_iload_n hx hb dX5_isWay_4 rfl (lv_at hl 0 rfl) ?_
    refine lv_iconst (v := (3 : Int32)) hx hb dX5_isWay_5 (by decide) ?_
    refine lv_icmp_gt (tgt := 13) hx hb dX5_isWay_6 (by decide) (fun c_2 => ?_) (fun c_2 => ?_)
    · refine lv_iconst (v := (0 : Int32)) hx hb dX5_isWay_13 (by decide) ?_
      exact W.zret (v := (0 : Int32)) hx hb hr rfl (fun t ht _ => ⟨by rw [mX5_isWay, if_neg c_1, if_pos c_2], ht⟩) (fun _ h => by cases h) dX5_isWay_14
    · refine lv_iconst (v := (1 : Int32)) hx hb dX5_isWay_9 (by decide) ?_
      refine lv_goto (tgt := 14) hx hb dX5_isWay_10 (by decide) ?_
      exact W.zret (v := (1 : Int32)) hx hb hr rfl (fun t ht _ => ⟨by rw [mX5_isWay, if_neg c_1, if_neg c_2], ht⟩) (fun _ h => by cases h) dX5_isWay_14
end
