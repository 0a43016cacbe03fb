/-! ===== BEGIN words of one list among another's, by their places ===== -/
theorem goodIn_r {big : List Cond} (ws : List Cond) (ps : List Nat) (hp : ws = ps.filterMap (fun i => big[i]?)) (h : ws.all goodWord = true) : GoodIn big ws := by
  intro w hw
  have h1 := List.all_eq_true.mp h w hw
  rw [hp] at hw
  obtain ⟨i, -, hi⟩ := List.mem_filterMap.mp hw
  have hm : w ∈ big := by first | exact List.mem_of_getElem? hi | exact List.getElem?_mem hi
  exact ⟨hm, good_of_word h1⟩
theorem goodIn_app {big a b : List Cond} (ha : GoodIn big a) (hb : GoodIn big b) : GoodIn big (a ++ b) := fun w h => (List.mem_append.mp h).elim (ha w) (hb w)
theorem goodIn_ca {big a b : List Cond} {c : Cond} (ha : GoodIn big (c :: a)) (hb : GoodIn big b) : GoodIn big (c :: (a ++ b)) := fun w h => (List.mem_cons.mp h).elim (fun e => ha w (List.mem_cons.mpr (Or.inl e))) (fun h => (List.mem_append.mp h).elim (fun h => ha w (List.mem_cons.mpr (Or.inr h))) (hb w))
theorem goodIn_sub {big ws : List Cond} (hm : ∀ w ∈ ws, w ∈ big) (h : ws.all goodWord = true) : GoodIn big ws := fun w hw => ⟨hm w hw, good_of_word (List.all_eq_true.mp h w hw)⟩
/-! ===== END ===== -/

/-! ===== BEGIN printed: names, fields, word lists, decode rows ===== -/
def RX0 : String := "FewWays$Choice"
def TX0 : u_T := fun k => match k with
  | _ => ("FewWays$Choice", "table", "LFewWays$Table;", true)
def tyX0 : Nat → FieldType := fun k => match k with
  | _ => .object "FewWays$Table"
abbrev wsX00 : List Cond := u_ws RX0 TX0 1
theorem nmX0 : ∀ a, a < 1 → ∀ b, b < 1 → a ≠ b → (TX0 a).2.1 ≠ (TX0 b).2.1 := by decide +kernel
theorem tyX0_ok : ∀ k, k < 1 → parseFieldDescriptor (TX0 k).2.2.1 = some (tyX0 k) := by decide +kernel
abbrev cX0_init : ByteArray := prog_2_method_1_code
def yX0_init : MethodName := ⟨RX0, "<init>", "(LFewWays$Table;)V"⟩
abbrev cX0_nearest : ByteArray := prog_2_method_2_code
def yX0_nearest : MethodName := ⟨RX0, "nearest", "(IZ)I"⟩
abbrev cX0_cost : ByteArray := prog_2_method_3_code
def yX0_cost : MethodName := ⟨RX0, "cost", "(IZ)I"⟩
abbrev cX0_wayToNearest : ByteArray := prog_2_method_4_code
def yX0_wayToNearest : MethodName := ⟨RX0, "wayToNearest", "(II)I"⟩
def RX1 : String := "FewWays$Laws"
def TX1 : u_T := fun k => match k with
  | 0 => ("FewWays$Laws", "table", "LFewWays$Table;", true)
  | 1 => ("FewWays$Laws", "weights", "[I", true)
  | 2 => ("FewWays$Laws", "firstCase", "I", false)
  | _ => ("FewWays$Laws", "broken", "I", false)
def tyX1 : Nat → FieldType := fun k => match k with
  | 0 => .object "FewWays$Table"
  | 1 => .array .int
  | 2 => .int
  | _ => .int
abbrev wsX10 : List Cond := u_ws RX1 TX1 4
theorem nmX1 : ∀ a, a < 4 → ∀ b, b < 4 → a ≠ b → (TX1 a).2.1 ≠ (TX1 b).2.1 := by decide +kernel
theorem tyX1_ok : ∀ k, k < 4 → parseFieldDescriptor (TX1 k).2.2.1 = some (tyX1 k) := by decide +kernel
abbrev cX1_init : ByteArray := prog_3_method_1_code
def yX1_init : MethodName := ⟨RX1, "<init>", "(LFewWays$Table;)V"⟩
abbrev cX1_hasLaw : ByteArray := prog_3_method_2_code
def yX1_hasLaw : MethodName := ⟨RX1, "hasLaw", "(I)Z"⟩
abbrev cX1_judge : ByteArray := prog_3_method_3_code
def yX1_judge : MethodName := ⟨RX1, "judge", "(I)V"⟩
abbrev cX1_note : ByteArray := prog_3_method_4_code
def yX1_note : MethodName := ⟨RX1, "note", "(I)V"⟩
abbrev cX1_judgeDetours : ByteArray := prog_3_method_5_code
def yX1_judgeDetours : MethodName := ⟨RX1, "judgeDetours", "()V"⟩
abbrev cX1_judgeTrees : ByteArray := prog_3_method_6_code
def yX1_judgeTrees : MethodName := ⟨RX1, "judgeTrees", "()V"⟩
abbrev cX1_sumsStickOut : ByteArray := prog_3_method_7_code
def yX1_sumsStickOut : MethodName := ⟨RX1, "sumsStickOut", "(IIII)Z"⟩
abbrev cX1_judgeNests : ByteArray := prog_3_method_8_code
def yX1_judgeNests : MethodName := ⟨RX1, "judgeNests", "()V"⟩
abbrev cX1_greatestIsAlone : ByteArray := prog_3_method_9_code
def yX1_greatestIsAlone : MethodName := ⟨RX1, "greatestIsAlone", "(III)Z"⟩
abbrev cX1_judgeWeights : ByteArray := prog_3_method_10_code
def yX1_judgeWeights : MethodName := ⟨RX1, "judgeWeights", "(IIII)V"⟩
abbrev cX1_pullOn : ByteArray := prog_3_method_11_code
def yX1_pullOn : MethodName := ⟨RX1, "pullOn", "(I)I"⟩
def RX2 : String := "FewWays$Layout"
def TX2 : u_T := fun k => match k with
  | 0 => ("FewWays$Layout", "table", "LFewWays$Table;", true)
  | 1 => ("FewWays$Layout", "places", "[I", true)
  | 2 => ("FewWays$Layout", "above", "I", false)
  | 3 => ("FewWays$Layout", "below", "I", false)
  | 4 => ("FewWays$Layout", "bestOrder", "I", false)
  | 5 => ("FewWays$Layout", "bestAbove", "I", false)
  | _ => ("FewWays$Layout", "bestBelow", "I", false)
def tyX2 : Nat → FieldType := fun k => match k with
  | 0 => .object "FewWays$Table"
  | 1 => .array .int
  | 2 => .int
  | 3 => .int
  | 4 => .int
  | 5 => .int
  | _ => .int
abbrev wsX20 : List Cond := u_ws RX2 TX2 7
theorem nmX2 : ∀ a, a < 7 → ∀ b, b < 7 → a ≠ b → (TX2 a).2.1 ≠ (TX2 b).2.1 := by decide +kernel
theorem tyX2_ok : ∀ k, k < 7 → parseFieldDescriptor (TX2 k).2.2.1 = some (tyX2 k) := by decide +kernel
abbrev cX2_init : ByteArray := prog_4_method_1_code
def yX2_init : MethodName := ⟨RX2, "<init>", "(LFewWays$Table;)V"⟩
abbrev cX2_isOrder : ByteArray := prog_4_method_2_code
def yX2_isOrder : MethodName := ⟨RX2, "isOrder", "(I)Z"⟩
abbrev cX2_pointAt : ByteArray := prog_4_method_3_code
def yX2_pointAt : MethodName := ⟨RX2, "pointAt", "(II)I"⟩
abbrev cX2_lay : ByteArray := prog_4_method_4_code
def yX2_lay : MethodName := ⟨RX2, "lay", "(I)V"⟩
abbrev cX2_leastPlace : ByteArray := prog_4_method_5_code
def yX2_leastPlace : MethodName := ⟨RX2, "leastPlace", "(III)I"⟩
abbrev cX2_measureStretch : ByteArray := prog_4_method_6_code
def yX2_measureStretch : MethodName := ⟨RX2, "measureStretch", "()V"⟩
abbrev cX2_stretchPart : ByteArray := prog_4_method_7_code
def yX2_stretchPart : MethodName := ⟨RX2, "stretchPart", "(I)I"⟩
abbrev cX2_leastStretched : ByteArray := prog_4_method_8_code
def yX2_leastStretched : MethodName := ⟨RX2, "leastStretched", "()I"⟩
abbrev cX2_tryOrders : ByteArray := prog_4_method_9_code
def yX2_tryOrders : MethodName := ⟨RX2, "tryOrders", "(III)V"⟩
abbrev cX2_keepIfBetter : ByteArray := prog_4_method_10_code
def yX2_keepIfBetter : MethodName := ⟨RX2, "keepIfBetter", "(I)V"⟩
def RX3 : String := "FewWays$Minors"
def TX3 : u_T := fun k => match k with
  | 0 => ("FewWays$Minors", "table", "LFewWays$Table;", true)
  | _ => ("FewWays$Minors", "found", "[J", true)
def tyX3 : Nat → FieldType := fun k => match k with
  | 0 => .object "FewWays$Table"
  | _ => .array .long
abbrev wsX30 : List Cond := u_ws RX3 TX3 2
theorem nmX3 : ∀ a, a < 2 → ∀ b, b < 2 → a ≠ b → (TX3 a).2.1 ≠ (TX3 b).2.1 := by decide +kernel
theorem tyX3_ok : ∀ k, k < 2 → parseFieldDescriptor (TX3 k).2.2.1 = some (tyX3 k) := by decide +kernel
abbrev cX3_init : ByteArray := prog_5_method_1_code
def yX3_init : MethodName := ⟨RX3, "<init>", "(LFewWays$Table;)V"⟩
abbrev cX3_noneIsNegative : ByteArray := prog_5_method_2_code
def yX3_noneIsNegative : MethodName := ⟨RX3, "noneIsNegative", "()Z"⟩
abbrev cX3_rank : ByteArray := prog_5_method_3_code
def yX3_rank : MethodName := ⟨RX3, "rank", "()I"⟩
abbrev cX3_determinant : ByteArray := prog_5_method_4_code
def yX3_determinant : MethodName := ⟨RX3, "determinant", "(I)J"⟩
abbrev cX3_expand : ByteArray := prog_5_method_5_code
def yX3_expand : MethodName := ⟨RX3, "expand", "(II)J"⟩
abbrev cX3_product : ByteArray := prog_5_method_6_code
def yX3_product : MethodName := ⟨RX3, "product", "(II)J"⟩
abbrev cX3_square : ByteArray := prog_5_method_7_code
def yX3_square : MethodName := ⟨RX3, "square", "(II)J"⟩
abbrev cX3_memberAt : ByteArray := prog_5_method_8_code
def yX3_memberAt : MethodName := ⟨RX3, "memberAt", "(II)I"⟩
def RX4 : String := "FewWays$Peeling"
def TX4 : u_T := fun k => match k with
  | 0 => ("FewWays$Peeling", "table", "LFewWays$Table;", true)
  | 1 => ("FewWays$Peeling", "rest", "LFewWays$Table;", true)
  | 2 => ("FewWays$Peeling", "restLaws", "LFewWays$Laws;", true)
  | _ => ("FewWays$Peeling", "taken", "[I", true)
def tyX4 : Nat → FieldType := fun k => match k with
  | 0 => .object "FewWays$Table"
  | 1 => .object "FewWays$Table"
  | 2 => .object "FewWays$Laws"
  | _ => .array .int
abbrev wsX40 : List Cond := u_ws RX4 TX4 4
theorem nmX4 : ∀ a, a < 4 → ∀ b, b < 4 → a ≠ b → (TX4 a).2.1 ≠ (TX4 b).2.1 := by decide +kernel
theorem tyX4_ok : ∀ k, k < 4 → parseFieldDescriptor (TX4 k).2.2.1 = some (tyX4 k) := by decide +kernel
abbrev cX4_init : ByteArray := prog_6_method_1_code
def yX4_init : MethodName := ⟨RX4, "<init>", "(LFewWays$Table;)V"⟩
abbrev cX4_takeAll : ByteArray := prog_6_method_2_code
def yX4_takeAll : MethodName := ⟨RX4, "takeAll", "()V"⟩
abbrev cX4_mostHalves : ByteArray := prog_6_method_3_code
def yX4_mostHalves : MethodName := ⟨RX4, "mostHalves", "(I)I"⟩
abbrev cX4_spareWay : ByteArray := prog_6_method_4_code
def yX4_spareWay : MethodName := ⟨RX4, "spareWay", "(III)I"⟩
def RX5 : String := "FewWays$Signing"
def TX5 : u_T := fun k => match k with
  | _ => ("FewWays$Signing", "numbers", "[I", true)
def tyX5 : Nat → FieldType := fun k => match k with
  | _ => .array .int
abbrev wsX50 : List Cond := u_ws RX5 TX5 1
theorem nmX5 : ∀ a, a < 1 → ∀ b, b < 1 → a ≠ b → (TX5 a).2.1 ≠ (TX5 b).2.1 := by decide +kernel
theorem tyX5_ok : ∀ k, k < 1 → parseFieldDescriptor (TX5 k).2.2.1 = some (tyX5 k) := by decide +kernel
abbrev cX5_init : ByteArray := prog_7_method_1_code
def yX5_init : MethodName := ⟨RX5, "<init>", "()V"⟩
abbrev cX5_hasLength : ByteArray := prog_7_method_2_code
def yX5_hasLength : MethodName := ⟨RX5, "hasLength", "(I)Z"⟩
abbrev cX5_size : ByteArray := prog_7_method_3_code
def yX5_size : MethodName := ⟨RX5, "size", "(II)I"⟩
abbrev cX5_rowsWithin : ByteArray := prog_7_method_4_code
def yX5_rowsWithin : MethodName := ⟨RX5, "rowsWithin", "(II)I"⟩
abbrev cX5_smallestRow : ByteArray := prog_7_method_5_code
def yX5_smallestRow : MethodName := ⟨RX5, "smallestRow", "(I)I"⟩
def RX6 : String := "FewWays$Table"
def TX6 : u_T := fun k => match k with
  | 0 => ("FewWays$Table", "cells", "[I", true)
  | _ => ("FewWays$Table", "points", "I", false)
def tyX6 : Nat → FieldType := fun k => match k with
  | 0 => .array .int
  | _ => .int
abbrev wsX60 : List Cond := u_ws RX6 TX6 2
theorem nmX6 : ∀ a, a < 2 → ∀ b, b < 2 → a ≠ b → (TX6 a).2.1 ≠ (TX6 b).2.1 := by decide +kernel
theorem tyX6_ok : ∀ k, k < 2 → parseFieldDescriptor (TX6 k).2.2.1 = some (tyX6 k) := by decide +kernel
abbrev cX6_init : ByteArray := prog_8_method_1_code
def yX6_init : MethodName := ⟨RX6, "<init>", "()V"⟩
abbrev cX6_reset : ByteArray := prog_8_method_2_code
def yX6_reset : MethodName := ⟨RX6, "reset", "(I)V"⟩
abbrev cX6_copyDoubled : ByteArray := prog_8_method_3_code
def yX6_copyDoubled : MethodName := ⟨RX6, "copyDoubled", "(LFewWays$Table;)V"⟩
abbrev cX6_hasPoint : ByteArray := prog_8_method_4_code
def yX6_hasPoint : MethodName := ⟨RX6, "hasPoint", "(I)Z"⟩
abbrev cX6_hasPair : ByteArray := prog_8_method_5_code
def yX6_hasPair : MethodName := ⟨RX6, "hasPair", "(II)Z"⟩
abbrev cX6_hasCut : ByteArray := prog_8_method_6_code
def yX6_hasCut : MethodName := ⟨RX6, "hasCut", "(I)Z"⟩
abbrev cX6_between : ByteArray := prog_8_method_7_code
def yX6_between : MethodName := ⟨RX6, "between", "(II)I"⟩
abbrev cX6_put : ByteArray := prog_8_method_8_code
def yX6_put : MethodName := ⟨RX6, "put", "(III)V"⟩
abbrev cX6_bearsCut : ByteArray := prog_8_method_9_code
def yX6_bearsCut : MethodName := ⟨RX6, "bearsCut", "(II)Z"⟩
abbrev cX6_putCut : ByteArray := prog_8_method_10_code
def yX6_putCut : MethodName := ⟨RX6, "putCut", "(II)V"⟩
def RX7 : String := "FewWays"
def TX7 : u_T := fun k => match k with
  | 0 => ("FewWays", "distances", "LFewWays$Table;", true)
  | 1 => ("FewWays", "laws", "LFewWays$Laws;", true)
  | 2 => ("FewWays", "minors", "LFewWays$Minors;", true)
  | 3 => ("FewWays", "peeling", "LFewWays$Peeling;", true)
  | 4 => ("FewWays", "layout", "LFewWays$Layout;", true)
  | 5 => ("FewWays", "choice", "LFewWays$Choice;", true)
  | _ => ("FewWays", "signing", "LFewWays$Signing;", true)
def tyX7 : Nat → FieldType := fun k => match k with
  | 0 => .object "FewWays$Table"
  | 1 => .object "FewWays$Laws"
  | 2 => .object "FewWays$Minors"
  | 3 => .object "FewWays$Peeling"
  | 4 => .object "FewWays$Layout"
  | 5 => .object "FewWays$Choice"
  | _ => .object "FewWays$Signing"
abbrev wsX70 : List Cond := u_ws RX7 TX7 7
theorem nmX7 : ∀ a, a < 7 → ∀ b, b < 7 → a ≠ b → (TX7 a).2.1 ≠ (TX7 b).2.1 := by decide +kernel
theorem tyX7_ok : ∀ k, k < 7 → parseFieldDescriptor (TX7 k).2.2.1 = some (tyX7 k) := by decide +kernel
abbrev cX7_init : ByteArray := prog_1_method_1_code
def yX7_init : MethodName := ⟨RX7, "<init>", "()V"⟩
abbrev cX7_table : ByteArray := prog_1_method_2_code
def yX7_table : MethodName := ⟨RX7, "table", "(I)I"⟩
abbrev cX7_set : ByteArray := prog_1_method_3_code
def yX7_set : MethodName := ⟨RX7, "set", "(III)I"⟩
abbrev cX7_at : ByteArray := prog_1_method_4_code
def yX7_at : MethodName := ⟨RX7, "at", "(II)I"⟩
abbrev cX7_law : ByteArray := prog_1_method_5_code
def yX7_law : MethodName := ⟨RX7, "law", "(I)I"⟩
abbrev cX7_breaks : ByteArray := prog_1_method_6_code
def yX7_breaks : MethodName := ⟨RX7, "breaks", "(I)I"⟩
abbrev cX7_flat : ByteArray := prog_1_method_7_code
def yX7_flat : MethodName := ⟨RX7, "flat", "()I"⟩
abbrev cX7_ways : ByteArray := prog_1_method_8_code
def yX7_ways : MethodName := ⟨RX7, "ways", "()I"⟩
abbrev cX7_bulk : ByteArray := prog_1_method_9_code
def yX7_bulk : MethodName := ⟨RX7, "bulk", "(I)J"⟩
abbrev cX7_add : ByteArray := prog_1_method_10_code
def yX7_add : MethodName := ⟨RX7, "add", "(II)I"⟩
abbrev cX7_peel : ByteArray := prog_1_method_11_code
def yX7_peel : MethodName := ⟨RX7, "peel", "(I)I"⟩
abbrev cX7_left : ByteArray := prog_1_method_12_code
def yX7_left : MethodName := ⟨RX7, "left", "(II)I"⟩
abbrev cX7_line : ByteArray := prog_1_method_13_code
def yX7_line : MethodName := ⟨RX7, "line", "(III)I"⟩
abbrev cX7_best : ByteArray := prog_1_method_14_code
def yX7_best : MethodName := ⟨RX7, "best", "(I)I"⟩
abbrev cX7_centres : ByteArray := prog_1_method_15_code
def yX7_centres : MethodName := ⟨RX7, "centres", "(III)I"⟩
abbrev cX7_number : ByteArray := prog_1_method_16_code
def yX7_number : MethodName := ⟨RX7, "number", "(II)I"⟩
abbrev cX7_signs : ByteArray := prog_1_method_17_code
def yX7_signs : MethodName := ⟨RX7, "signs", "(II)I"⟩
abbrev cX7_least : ByteArray := prog_1_method_18_code
def yX7_least : MethodName := ⟨RX7, "least", "(II)I"⟩
abbrev cX7_count : ByteArray := prog_1_method_19_code
def yX7_count : MethodName := ⟨RX7, "count", "()I"⟩
abbrev cX7_holds : ByteArray := prog_1_method_20_code
def yX7_holds : MethodName := ⟨RX7, "holds", "(II)Z"⟩
abbrev cX7_parts : ByteArray := prog_1_method_21_code
def yX7_parts : MethodName := ⟨RX7, "parts", "(III)Z"⟩
def RX8 : String := "FewWaysModel"
def TX8 : u_T := fun k => match k with
  | 0 => ("FewWaysModel", "n", "I", false)
  | 1 => ("FewWaysModel", "d", "[I", true)
  | 2 => ("FewWaysModel", "left", "[I", true)
  | 3 => ("FewWaysModel", "peels", "[I", true)
  | 4 => ("FewWaysModel", "numbers", "[I", true)
  | 5 => ("FewWaysModel", "point", "[I", true)
  | 6 => ("FewWaysModel", "worths", "[J", true)
  | 7 => ("FewWaysModel", "place", "[I", true)
  | 8 => ("FewWaysModel", "above", "I", false)
  | _ => ("FewWaysModel", "below", "I", false)
def tyX8 : Nat → FieldType := fun k => match k with
  | 0 => .int
  | 1 => .array .int
  | 2 => .array .int
  | 3 => .array .int
  | 4 => .array .int
  | 5 => .array .int
  | 6 => .array .long
  | 7 => .array .int
  | 8 => .int
  | _ => .int
abbrev wsX80 : List Cond := u_ws RX8 TX8 10
theorem nmX8 : ∀ a, a < 10 → ∀ b, b < 10 → a ≠ b → (TX8 a).2.1 ≠ (TX8 b).2.1 := by decide +kernel
theorem tyX8_ok : ∀ k, k < 10 → parseFieldDescriptor (TX8 k).2.2.1 = some (tyX8 k) := by decide +kernel
abbrev cX8_init : ByteArray := prog_10_method_1_code
def yX8_init : MethodName := ⟨RX8, "<init>", "()V"⟩
abbrev cX8_in : ByteArray := prog_10_method_2_code
def yX8_in : MethodName := ⟨RX8, "in", "(III)Z"⟩
abbrev cX8_fills : ByteArray := prog_10_method_3_code
def yX8_fills : MethodName := ⟨RX8, "fills", "()V"⟩
abbrev cX8_dist : ByteArray := prog_10_method_4_code
def yX8_dist : MethodName := ⟨RX8, "dist", "(II)I"⟩
abbrev cX8_table : ByteArray := prog_10_method_5_code
def yX8_table : MethodName := ⟨RX8, "table", "(I)I"⟩
abbrev cX8_isPoint : ByteArray := prog_10_method_6_code
def yX8_isPoint : MethodName := ⟨RX8, "isPoint", "(I)Z"⟩
abbrev cX8_set : ByteArray := prog_10_method_7_code
def yX8_set : MethodName := ⟨RX8, "set", "(III)I"⟩
abbrev cX8_at : ByteArray := prog_10_method_8_code
def yX8_at : MethodName := ⟨RX8, "at", "(II)I"⟩
abbrev cX8_isTwice : ByteArray := prog_10_method_9_code
def yX8_isTwice : MethodName := ⟨RX8, "isTwice", "(III)Z"⟩
abbrev cX8_isBroken : ByteArray := prog_10_method_10_code
def yX8_isBroken : MethodName := ⟨RX8, "isBroken", "(II)Z"⟩
abbrev cX8_isAbove : ByteArray := prog_10_method_11_code
def yX8_isAbove : MethodName := ⟨RX8, "isAbove", "(I)Z"⟩
abbrev cX8_cases : ByteArray := prog_10_method_12_code
def yX8_cases : MethodName := ⟨RX8, "cases", "(I)I"⟩
abbrev cX8_law : ByteArray := prog_10_method_13_code
def yX8_law : MethodName := ⟨RX8, "law", "(I)I"⟩
abbrev cX8_breaks : ByteArray := prog_10_method_14_code
def yX8_breaks : MethodName := ⟨RX8, "breaks", "(I)I"⟩
abbrev cX8_worth : ByteArray := prog_10_method_15_code
def yX8_worth : MethodName := ⟨RX8, "worth", "(I)J"⟩
abbrev cX8_bits : ByteArray := prog_10_method_16_code
def yX8_bits : MethodName := ⟨RX8, "bits", "(I)I"⟩
abbrev cX8_flat : ByteArray := prog_10_method_17_code
def yX8_flat : MethodName := ⟨RX8, "flat", "()I"⟩
abbrev cX8_ways : ByteArray := prog_10_method_18_code
def yX8_ways : MethodName := ⟨RX8, "ways", "()I"⟩
abbrev cX8_bulk : ByteArray := prog_10_method_19_code
def yX8_bulk : MethodName := ⟨RX8, "bulk", "(I)J"⟩
abbrev cX8_isCut : ByteArray := prog_10_method_20_code
def yX8_isCut : MethodName := ⟨RX8, "isCut", "(I)Z"⟩
abbrev cX8_parts : ByteArray := prog_10_method_21_code
def yX8_parts : MethodName := ⟨RX8, "parts", "(III)Z"⟩
abbrev cX8_add : ByteArray := prog_10_method_22_code
def yX8_add : MethodName := ⟨RX8, "add", "(II)I"⟩
abbrev cX8_bears : ByteArray := prog_10_method_23_code
def yX8_bears : MethodName := ⟨RX8, "bears", "(I)I"⟩
abbrev cX8_peelAll : ByteArray := prog_10_method_24_code
def yX8_peelAll : MethodName := ⟨RX8, "peelAll", "()V"⟩
abbrev cX8_peel : ByteArray := prog_10_method_25_code
def yX8_peel : MethodName := ⟨RX8, "peel", "(I)I"⟩
abbrev cX8_left : ByteArray := prog_10_method_26_code
def yX8_left : MethodName := ⟨RX8, "left", "(II)I"⟩
abbrev cX8_isOrder : ByteArray := prog_10_method_27_code
def yX8_isOrder : MethodName := ⟨RX8, "isOrder", "(I)Z"⟩
abbrev cX8_lays : ByteArray := prog_10_method_28_code
def yX8_lays : MethodName := ⟨RX8, "lays", "(I)V"⟩
abbrev cX8_common : ByteArray := prog_10_method_29_code
def yX8_common : MethodName := ⟨RX8, "common", "(II)I"⟩
abbrev cX8_stretch : ByteArray := prog_10_method_30_code
def yX8_stretch : MethodName := ⟨RX8, "stretch", "(I)I"⟩
abbrev cX8_line : ByteArray := prog_10_method_31_code
def yX8_line : MethodName := ⟨RX8, "line", "(III)I"⟩
abbrev cX8_isLower : ByteArray := prog_10_method_32_code
def yX8_isLower : MethodName := ⟨RX8, "isLower", "(II)Z"⟩
abbrev cX8_best : ByteArray := prog_10_method_33_code
def yX8_best : MethodName := ⟨RX8, "best", "(I)I"⟩
abbrev cX8_worthOf : ByteArray := prog_10_method_34_code
def yX8_worthOf : MethodName := ⟨RX8, "worthOf", "(II)I"⟩
abbrev cX8_centres : ByteArray := prog_10_method_35_code
def yX8_centres : MethodName := ⟨RX8, "centres", "(III)I"⟩
abbrev cX8_number : ByteArray := prog_10_method_36_code
def yX8_number : MethodName := ⟨RX8, "number", "(II)I"⟩
abbrev cX8_sumOf : ByteArray := prog_10_method_37_code
def yX8_sumOf : MethodName := ⟨RX8, "sumOf", "(II)I"⟩
abbrev cX8_signs : ByteArray := prog_10_method_38_code
def yX8_signs : MethodName := ⟨RX8, "signs", "(II)I"⟩
abbrev cX8_least : ByteArray := prog_10_method_39_code
def yX8_least : MethodName := ⟨RX8, "least", "(II)I"⟩
abbrev cX8_count : ByteArray := prog_10_method_40_code
def yX8_count : MethodName := ⟨RX8, "count", "()I"⟩
def RJ6 : String := "java/lang/Integer"
def TJ6 : u_T := fun k => match k with
  | _ => ("", "", "", false)
def tyJ6 : Nat → FieldType := fun k => match k with
  | _ => .int
abbrev wsJ60 : List Cond := u_ws RJ6 TJ6 0
theorem nmJ6 : ∀ a, a < 0 → ∀ b, b < 0 → a ≠ b → (TJ6 a).2.1 ≠ (TJ6 b).2.1 := by decide +kernel
theorem tyJ6_ok : ∀ k, k < 0 → parseFieldDescriptor (TJ6 k).2.2.1 = some (tyJ6 k) := by decide +kernel
abbrev cJ6_bitCount_0f7a4 : ByteArray := prog_11_method_49_code
def yJ6_bitCount_0f7a4 : MethodName := ⟨RJ6, "bitCount", "(I)I"⟩
def RJ9 : String := "java/lang/Math"
def TJ9 : u_T := fun k => match k with
  | _ => ("", "", "", false)
def tyJ9 : Nat → FieldType := fun k => match k with
  | _ => .int
abbrev wsJ90 : List Cond := u_ws RJ9 TJ9 0
theorem nmJ9 : ∀ a, a < 0 → ∀ b, b < 0 → a ≠ b → (TJ9 a).2.1 ≠ (TJ9 b).2.1 := by decide +kernel
theorem tyJ9_ok : ∀ k, k < 0 → parseFieldDescriptor (TJ9 k).2.2.1 = some (tyJ9 k) := by decide +kernel
abbrev cJ9_abs_0f7a4 : ByteArray := prog_12_method_59_code
def yJ9_abs_0f7a4 : MethodName := ⟨RJ9, "abs", "(I)I"⟩
abbrev cJ9_max_7cf53 : ByteArray := prog_12_method_65_code
def yJ9_max_7cf53 : MethodName := ⟨RJ9, "max", "(II)I"⟩
abbrev cJ9_min_7cf53 : ByteArray := prog_12_method_69_code
def yJ9_min_7cf53 : MethodName := ⟨RJ9, "min", "(II)I"⟩
def RL : String := "FewWaysLaw"
abbrev cL_law : ByteArray := code
def yL_law : MethodName := ⟨RL, "law", "([I)Z"⟩
abbrev vwCl : List vw_C := [(RX0, TX0, 1), (RX1, TX1, 4), (RX2, TX2, 7), (RX3, TX3, 2), (RX4, TX4, 4), (RX5, TX5, 1), (RX6, TX6, 2), (RX7, TX7, 7), (RX8, TX8, 10)]
/-- the good words of the tables: those that a callee may ask -/
def okW : List Cond := lw_tbl.filter goodWord
theorem okW_tbl {w : Cond} (h : w ∈ okW) : w ∈ lw_tbl := (List.mem_filter.mp h).1
theorem okW_good {w : Cond} (h : w ∈ okW) : goodWord w = true := (List.mem_filter.mp h).2
theorem okm {w : Cond} {i : Nat} (h : lw_tbl[i]? = some w) (hg : goodWord w = true) : w ∈ okW := List.mem_filter.mpr ⟨List.mem_of_getElem? h, hg⟩
