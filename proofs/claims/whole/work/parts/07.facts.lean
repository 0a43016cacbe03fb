/-! the methods, and what each field and call of theirs asks: by program -/
set_option maxRecDepth 20000 in
theorem fw_nm {w : Cond} {i : Nat} (h : lw_tbl[i]? = some w) (hg : fw_isN w = true) : w ∈ fw_nest := List.mem_filter.mpr ⟨List.mem_of_getElem? h, hg⟩
set_option maxRecDepth 20000 in
theorem inX0 : ∀ x ∈ u_ws RX0 TX0 1, x ∈ okW := by
  intro x hx
  obtain ⟨k, hk, rfl⟩ := List.mem_map.mp hx
  have hk := List.mem_range.mp hk
  match k, hk with
  | 0, _ => exact (okm (i := 173) rfl rfl)
set_option maxRecDepth 20000 in
theorem inX1 : ∀ x ∈ u_ws RX1 TX1 4, x ∈ okW := by
  intro x hx
  obtain ⟨k, hk, rfl⟩ := List.mem_map.mp hx
  have hk := List.mem_range.mp hk
  match k, hk with
  | 0, _ => exact (okm (i := 89) rfl rfl)
  | 1, _ => exact (okm (i := 91) rfl rfl)
  | 2, _ => exact (okm (i := 93) rfl rfl)
  | 3, _ => exact (okm (i := 95) rfl rfl)
set_option maxRecDepth 20000 in
theorem pfX1_2 : fk_put 1 2 := ⟨RX1, TX1, 4, tyX1, rfl, tyX1_ok, nmX1, rfl, rfl⟩
set_option maxRecDepth 20000 in
theorem pfX1_3 : fk_put 1 3 := ⟨RX1, TX1, 4, tyX1, rfl, tyX1_ok, nmX1, rfl, rfl⟩
set_option maxRecDepth 20000 in
theorem inX2 : ∀ x ∈ u_ws RX2 TX2 7, x ∈ okW := by
  intro x hx
  obtain ⟨k, hk, rfl⟩ := List.mem_map.mp hx
  have hk := List.mem_range.mp hk
  match k, hk with
  | 0, _ => exact (okm (i := 151) rfl rfl)
  | 1, _ => exact (okm (i := 153) rfl rfl)
  | 2, _ => exact (okm (i := 155) rfl rfl)
  | 3, _ => exact (okm (i := 157) rfl rfl)
  | 4, _ => exact (okm (i := 159) rfl rfl)
  | 5, _ => exact (okm (i := 161) rfl rfl)
  | 6, _ => exact (okm (i := 163) rfl rfl)
set_option maxRecDepth 20000 in
theorem pfX2_2 : fk_put 2 2 := ⟨RX2, TX2, 7, tyX2, rfl, tyX2_ok, nmX2, rfl, rfl⟩
set_option maxRecDepth 20000 in
theorem pfX2_3 : fk_put 2 3 := ⟨RX2, TX2, 7, tyX2, rfl, tyX2_ok, nmX2, rfl, rfl⟩
set_option maxRecDepth 20000 in
theorem pfX2_4 : fk_put 2 4 := ⟨RX2, TX2, 7, tyX2, rfl, tyX2_ok, nmX2, rfl, rfl⟩
set_option maxRecDepth 20000 in
theorem pfX2_5 : fk_put 2 5 := ⟨RX2, TX2, 7, tyX2, rfl, tyX2_ok, nmX2, rfl, rfl⟩
set_option maxRecDepth 20000 in
theorem pfX2_6 : fk_put 2 6 := ⟨RX2, TX2, 7, tyX2, rfl, tyX2_ok, nmX2, rfl, rfl⟩
set_option maxRecDepth 20000 in
theorem inX3 : ∀ x ∈ u_ws RX3 TX3 2, x ∈ okW := by
  intro x hx
  obtain ⟨k, hk, rfl⟩ := List.mem_map.mp hx
  have hk := List.mem_range.mp hk
  match k, hk with
  | 0, _ => exact (okm (i := 106) rfl rfl)
  | 1, _ => exact (okm (i := 108) rfl rfl)
set_option maxRecDepth 20000 in
theorem inX4 : ∀ x ∈ u_ws RX4 TX4 4, x ∈ okW := by
  intro x hx
  obtain ⟨k, hk, rfl⟩ := List.mem_map.mp hx
  have hk := List.mem_range.mp hk
  match k, hk with
  | 0, _ => exact (okm (i := 128) rfl rfl)
  | 1, _ => exact (okm (i := 130) rfl rfl)
  | 2, _ => exact (okm (i := 132) rfl rfl)
  | 3, _ => exact (okm (i := 134) rfl rfl)
set_option maxRecDepth 20000 in
theorem inX5 : ∀ x ∈ u_ws RX5 TX5 1, x ∈ okW := by
  intro x hx
  obtain ⟨k, hk, rfl⟩ := List.mem_map.mp hx
  have hk := List.mem_range.mp hk
  match k, hk with
  | 0, _ => exact (okm (i := 184) rfl rfl)
set_option maxRecDepth 20000 in
theorem inX6 : ∀ x ∈ u_ws RX6 TX6 2, x ∈ okW := by
  intro x hx
  obtain ⟨k, hk, rfl⟩ := List.mem_map.mp hx
  have hk := List.mem_range.mp hk
  match k, hk with
  | 0, _ => exact (okm (i := 70) rfl rfl)
  | 1, _ => exact (okm (i := 72) rfl rfl)
set_option maxRecDepth 20000 in
theorem pfX6_1 : fk_put 6 1 := ⟨RX6, TX6, 2, tyX6, rfl, tyX6_ok, nmX6, rfl, rfl⟩
set_option maxRecDepth 20000 in
theorem inX7 : ∀ x ∈ u_ws RX7 TX7 7, x ∈ okW := by
  intro x hx
  obtain ⟨k, hk, rfl⟩ := List.mem_map.mp hx
  have hk := List.mem_range.mp hk
  match k, hk with
  | 0, _ => exact (okm (i := 194) rfl rfl)
  | 1, _ => exact (okm (i := 196) rfl rfl)
  | 2, _ => exact (okm (i := 198) rfl rfl)
  | 3, _ => exact (okm (i := 200) rfl rfl)
  | 4, _ => exact (okm (i := 202) rfl rfl)
  | 5, _ => exact (okm (i := 204) rfl rfl)
  | 6, _ => exact (okm (i := 206) rfl rfl)
set_option maxRecDepth 20000 in
theorem inX8 : ∀ x ∈ u_ws RX8 TX8 10, x ∈ okW := by
  intro x hx
  obtain ⟨k, hk, rfl⟩ := List.mem_map.mp hx
  have hk := List.mem_range.mp hk
  match k, hk with
  | 0, _ => exact (okm (i := 522) rfl rfl)
  | 1, _ => exact (okm (i := 524) rfl rfl)
  | 2, _ => exact (okm (i := 526) rfl rfl)
  | 3, _ => exact (okm (i := 528) rfl rfl)
  | 4, _ => exact (okm (i := 530) rfl rfl)
  | 5, _ => exact (okm (i := 532) rfl rfl)
  | 6, _ => exact (okm (i := 534) rfl rfl)
  | 7, _ => exact (okm (i := 536) rfl rfl)
  | 8, _ => exact (okm (i := 538) rfl rfl)
  | 9, _ => exact (okm (i := 540) rfl rfl)
set_option maxRecDepth 20000 in
theorem pfX8_0 : fk_put 8 0 := ⟨RX8, TX8, 10, tyX8, rfl, tyX8_ok, nmX8, rfl, rfl⟩
set_option maxRecDepth 20000 in
theorem pfX8_8 : fk_put 8 8 := ⟨RX8, TX8, 10, tyX8, rfl, tyX8_ok, nmX8, rfl, rfl⟩
set_option maxRecDepth 20000 in
theorem pfX8_9 : fk_put 8 9 := ⟨RX8, TX8, 10, tyX8, rfl, tyX8_ok, nmX8, rfl, rfl⟩
abbrev mX0_init : fw_M := (yX0_init, cX0_init, 2, none)
abbrev mX0_nearest : fw_M := (yX0_nearest, cX0_nearest, 7, some .int)
abbrev mX0_cost : fw_M := (yX0_cost, cX0_cost, 7, some .int)
abbrev mX0_wayToNearest : fw_M := (yX0_wayToNearest, cX0_wayToNearest, 5, some .int)
abbrev mX1_init : fw_M := (yX1_init, cX1_init, 2, none)
abbrev mX1_hasLaw : fw_M := (yX1_hasLaw, cX1_hasLaw, 1, some .boolean)
abbrev mX1_judge : fw_M := (yX1_judge, cX1_judge, 2, none)
abbrev mX1_note : fw_M := (yX1_note, cX1_note, 2, none)
abbrev mX1_judgeDetours : fw_M := (yX1_judgeDetours, cX1_judgeDetours, 5, none)
abbrev mX1_judgeTrees : fw_M := (yX1_judgeTrees, cX1_judgeTrees, 6, none)
abbrev mX1_sumsStickOut : fw_M := (yX1_sumsStickOut, cX1_sumsStickOut, 5, some .boolean)
abbrev mX1_judgeNests : fw_M := (yX1_judgeNests, cX1_judgeNests, 5, none)
abbrev mX1_greatestIsAlone : fw_M := (yX1_greatestIsAlone, cX1_greatestIsAlone, 3, some .boolean)
abbrev mX1_judgeWeights : fw_M := (yX1_judgeWeights, cX1_judgeWeights, 8, none)
abbrev mX1_pullOn : fw_M := (yX1_pullOn, cX1_pullOn, 4, some .int)
abbrev mX2_init : fw_M := (yX2_init, cX2_init, 2, none)
abbrev mX2_isOrder : fw_M := (yX2_isOrder, cX2_isOrder, 4, some .boolean)
abbrev mX2_pointAt : fw_M := (yX2_pointAt, cX2_pointAt, 2, some .int)
abbrev mX2_lay : fw_M := (yX2_lay, cX2_lay, 4, none)
abbrev mX2_leastPlace : fw_M := (yX2_leastPlace, cX2_leastPlace, 7, some .int)
abbrev mX2_measureStretch : fw_M := (yX2_measureStretch, cX2_measureStretch, 5, none)
abbrev mX2_stretchPart : fw_M := (yX2_stretchPart, cX2_stretchPart, 4, some .int)
abbrev mX2_leastStretched : fw_M := (yX2_leastStretched, cX2_leastStretched, 1, some .int)
abbrev mX2_tryOrders : fw_M := (yX2_tryOrders, cX2_tryOrders, 5, none)
abbrev mX2_keepIfBetter : fw_M := (yX2_keepIfBetter, cX2_keepIfBetter, 2, none)
abbrev mX3_init : fw_M := (yX3_init, cX3_init, 2, none)
abbrev mX3_noneIsNegative : fw_M := (yX3_noneIsNegative, cX3_noneIsNegative, 2, some .boolean)
abbrev mX3_rank : fw_M := (yX3_rank, cX3_rank, 3, some .int)
abbrev mX3_determinant : fw_M := (yX3_determinant, cX3_determinant, 3, some .long)
abbrev mX3_expand : fw_M := (yX3_expand, cX3_expand, 9, some .long)
abbrev mX3_product : fw_M := (yX3_product, cX3_product, 3, some .long)
abbrev mX3_square : fw_M := (yX3_square, cX3_square, 5, some .long)
abbrev mX3_memberAt : fw_M := (yX3_memberAt, cX3_memberAt, 4, some .int)
abbrev mX4_init : fw_M := (yX4_init, cX4_init, 2, none)
abbrev mX4_takeAll : fw_M := (yX4_takeAll, cX4_takeAll, 3, none)
abbrev mX4_mostHalves : fw_M := (yX4_mostHalves, cX4_mostHalves, 6, some .int)
abbrev mX4_spareWay : fw_M := (yX4_spareWay, cX4_spareWay, 4, some .int)
abbrev mX5_init : fw_M := (yX5_init, cX5_init, 1, none)
abbrev mX5_hasLength : fw_M := (yX5_hasLength, cX5_hasLength, 1, some .boolean)
abbrev mX5_size : fw_M := (yX5_size, cX5_size, 5, some .int)
abbrev mX5_rowsWithin : fw_M := (yX5_rowsWithin, cX5_rowsWithin, 5, some .int)
abbrev mX5_smallestRow : fw_M := (yX5_smallestRow, cX5_smallestRow, 6, some .int)
abbrev mX6_init : fw_M := (yX6_init, cX6_init, 1, none)
abbrev mX6_reset : fw_M := (yX6_reset, cX6_reset, 4, none)
abbrev mX6_copyDoubled : fw_M := (yX6_copyDoubled, cX6_copyDoubled, 3, none)
abbrev mX6_hasPoint : fw_M := (yX6_hasPoint, cX6_hasPoint, 2, some .boolean)
abbrev mX6_hasPair : fw_M := (yX6_hasPair, cX6_hasPair, 3, some .boolean)
abbrev mX6_hasCut : fw_M := (yX6_hasCut, cX6_hasCut, 2, some .boolean)
abbrev mX6_between : fw_M := (yX6_between, cX6_between, 3, some .int)
abbrev mX6_put : fw_M := (yX6_put, cX6_put, 4, none)
abbrev mX6_bearsCut : fw_M := (yX6_bearsCut, cX6_bearsCut, 6, some .boolean)
abbrev mX6_putCut : fw_M := (yX6_putCut, cX6_putCut, 5, none)
abbrev mX7_init : fw_M := (yX7_init, cX7_init, 1, none)
abbrev mX7_table : fw_M := (yX7_table, cX7_table, 2, some .int)
abbrev mX7_set : fw_M := (yX7_set, cX7_set, 5, some .int)
abbrev mX7_at : fw_M := (yX7_at, cX7_at, 3, some .int)
abbrev mX7_law : fw_M := (yX7_law, cX7_law, 2, some .int)
abbrev mX7_breaks : fw_M := (yX7_breaks, cX7_breaks, 2, some .int)
abbrev mX7_flat : fw_M := (yX7_flat, cX7_flat, 1, some .int)
abbrev mX7_ways : fw_M := (yX7_ways, cX7_ways, 1, some .int)
abbrev mX7_bulk : fw_M := (yX7_bulk, cX7_bulk, 2, some .long)
abbrev mX7_add : fw_M := (yX7_add, cX7_add, 3, some .int)
abbrev mX7_peel : fw_M := (yX7_peel, cX7_peel, 2, some .int)
abbrev mX7_left : fw_M := (yX7_left, cX7_left, 3, some .int)
abbrev mX7_line : fw_M := (yX7_line, cX7_line, 4, some .int)
abbrev mX7_best : fw_M := (yX7_best, cX7_best, 3, some .int)
abbrev mX7_centres : fw_M := (yX7_centres, cX7_centres, 5, some .int)
abbrev mX7_number : fw_M := (yX7_number, cX7_number, 4, some .int)
abbrev mX7_signs : fw_M := (yX7_signs, cX7_signs, 3, some .int)
abbrev mX7_least : fw_M := (yX7_least, cX7_least, 4, some .int)
abbrev mX7_count : fw_M := (yX7_count, cX7_count, 1, some .int)
abbrev mX7_holds : fw_M := (yX7_holds, cX7_holds, 2, some .boolean)
abbrev mX7_parts : fw_M := (yX7_parts, cX7_parts, 3, some .boolean)
abbrev mX8_init : fw_M := (yX8_init, cX8_init, 1, none)
abbrev mX8_in : fw_M := (yX8_in, cX8_in, 3, some .boolean)
abbrev mX8_fills : fw_M := (yX8_fills, cX8_fills, 2, none)
abbrev mX8_dist : fw_M := (yX8_dist, cX8_dist, 3, some .int)
abbrev mX8_table : fw_M := (yX8_table, cX8_table, 2, some .int)
abbrev mX8_isPoint : fw_M := (yX8_isPoint, cX8_isPoint, 2, some .boolean)
abbrev mX8_set : fw_M := (yX8_set, cX8_set, 5, some .int)
abbrev mX8_at : fw_M := (yX8_at, cX8_at, 3, some .int)
abbrev mX8_isTwice : fw_M := (yX8_isTwice, cX8_isTwice, 4, some .boolean)
abbrev mX8_isBroken : fw_M := (yX8_isBroken, cX8_isBroken, 7, some .boolean)
abbrev mX8_isAbove : fw_M := (yX8_isAbove, cX8_isAbove, 9, some .boolean)
abbrev mX8_cases : fw_M := (yX8_cases, cX8_cases, 4, some .int)
abbrev mX8_law : fw_M := (yX8_law, cX8_law, 3, some .int)
abbrev mX8_breaks : fw_M := (yX8_breaks, cX8_breaks, 4, some .int)
abbrev mX8_worth : fw_M := (yX8_worth, cX8_worth, 13, some .long)
abbrev mX8_bits : fw_M := (yX8_bits, cX8_bits, 3, some .int)
abbrev mX8_flat : fw_M := (yX8_flat, cX8_flat, 2, some .int)
abbrev mX8_ways : fw_M := (yX8_ways, cX8_ways, 3, some .int)
abbrev mX8_bulk : fw_M := (yX8_bulk, cX8_bulk, 2, some .long)
abbrev mX8_isCut : fw_M := (yX8_isCut, cX8_isCut, 2, some .boolean)
abbrev mX8_parts : fw_M := (yX8_parts, cX8_parts, 3, some .boolean)
abbrev mX8_add : fw_M := (yX8_add, cX8_add, 5, some .int)
abbrev mX8_bears : fw_M := (yX8_bears, cX8_bears, 8, some .int)
abbrev mX8_peelAll : fw_M := (yX8_peelAll, cX8_peelAll, 5, none)
abbrev mX8_peel : fw_M := (yX8_peel, cX8_peel, 2, some .int)
abbrev mX8_left : fw_M := (yX8_left, cX8_left, 3, some .int)
abbrev mX8_isOrder : fw_M := (yX8_isOrder, cX8_isOrder, 4, some .boolean)
abbrev mX8_lays : fw_M := (yX8_lays, cX8_lays, 7, none)
abbrev mX8_common : fw_M := (yX8_common, cX8_common, 5, some .int)
abbrev mX8_stretch : fw_M := (yX8_stretch, cX8_stretch, 2, some .int)
abbrev mX8_line : fw_M := (yX8_line, cX8_line, 4, some .int)
abbrev mX8_isLower : fw_M := (yX8_isLower, cX8_isLower, 3, some .boolean)
abbrev mX8_best : fw_M := (yX8_best, cX8_best, 7, some .int)
abbrev mX8_worthOf : fw_M := (yX8_worthOf, cX8_worthOf, 8, some .int)
abbrev mX8_centres : fw_M := (yX8_centres, cX8_centres, 7, some .int)
abbrev mX8_number : fw_M := (yX8_number, cX8_number, 4, some .int)
abbrev mX8_sumOf : fw_M := (yX8_sumOf, cX8_sumOf, 5, some .int)
abbrev mX8_signs : fw_M := (yX8_signs, cX8_signs, 5, some .int)
abbrev mX8_least : fw_M := (yX8_least, cX8_least, 5, some .int)
abbrev mX8_count : fw_M := (yX8_count, cX8_count, 1, some .int)
abbrev mJ6_bitCount_0f7a4 : fw_M := (yJ6_bitCount_0f7a4, cJ6_bitCount_0f7a4, 1, some .int)
abbrev mJ9_abs_0f7a4 : fw_M := (yJ9_abs_0f7a4, cJ9_abs_0f7a4, 1, some .int)
abbrev mJ9_max_7cf53 : fw_M := (yJ9_max_7cf53, cJ9_max_7cf53, 2, some .int)
abbrev mJ9_min_7cf53 : fw_M := (yJ9_min_7cf53, cJ9_min_7cf53, 2, some .int)
